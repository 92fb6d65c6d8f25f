/-! The reference: fitting. -/
theorem ag_iff {c : sm_G} (h : iv c) {r t q : Nat} (hr : r < 60) (ht : t < 60) (hq : q < nQ c) (h1 : (anC c 6 r q).toInt ≠ -1) (h2 : (anC c 9 t q).toInt ≠ -1) :
    vAns (rA c 2 q) (rA c 3 q) (anC c 6 r q) ∧ vAns (rA c 2 q) (rA c 3 q) (anC c 9 t q) ∧ (clC c r t q ↔ ¬ vAg (rA c 2 q) (rA c 3 q) (bitL (rL c 5 (q * 40 + tn (anC c 6 r q))) (tn (anC c 9 t q)) = true) (anC c 6 r q) (anC c 9 t q)) := by
  have hq16 := h.1.1.2
  have v1 := h.2.1.2.2.1 r q hr (by omega) h1
  have v2 := h.2.1.2.2.2.1 t q ht (by omega) h2
  refine ⟨v1, v2, ?_⟩
  unfold clC agC
  constructor
  · rintro ⟨_, _, h3⟩ h4; exact h3 ⟨v1, v2, h4⟩
  · intro h4; exact ⟨h1, h2, fun h5 => h4 h5.2.2⟩
def sp_X10_apart (c : sm_G) : sm_SP := fun as g K => match as with
  | [.ref p, .int r, .int t] => p = 53 ∧ CP c g ∧ sm_in r 60 ∧ sm_in t 60 ∧ K (some (.int (oI (fcC c (tn r) (tn t))))) g
  | _ => False
theorem wf_X10_apart (c : sm_G) : sm_wf lay (yX10_apart, cX10_apart, 6, (some .int)) 3 false (sp_X10_apart c) := by
  intro as g K h
  simp only [sp_X10_apart] at h
  split at h
  · exact ⟨Nat.le_of_ble_eq_true rfl, by simp, rfl, fun _ => by obtain rfl := h.1; exact ⟨53, _, 10, [1, 1, 56, 57, 58, 59, 60, 61, 1, 1, 62, 63, 64, 65, 66, 67, 68, 69, 70, 71, 72, 73, 1, 74, 75, 76, 77, 1, 1, 78, 79, 1, 80, 1, 81, 1, 82, 83, 84, 85, 86, 1], TX10, 42, rfl, rfl, rfl⟩⟩
  · exact h.elim
set_option maxHeartbeats 4000000 in
set_option maxRecDepth 100000 in
theorem b_X10_apart (c : sm_G) : sm_body lay NX10_apart 6 0 (sm_cl [(177, sp_X10_knows), (165, sp_X10_mayBe c)]) (sp_X10_apart c) := by
  intro K J S hW as g hs
  have hn := n_X10_apart
  have hf := fd_all
  have ha := ar_all
  generalize NX10_apart = N at hn hW
  generalize lay = L at hf ha hW
  obtain ⟨hS, hR⟩ := hW
  simp only [sp_X10_apart] at hs
  split at hs
  case h_2 => exact hs.elim
  simp only [e_args, sm_pad, List.length_cons, List.length_nil, Nat.reduceAdd, Nat.reduceSub, List.replicate_succ, List.replicate_zero, List.cons_append, List.nil_append]
  rename_i p r t
  obtain ⟨rfl, h, hr, ht, hs⟩ := hs
  have hn2 := CP_n h
  have hq0 := h.2.1.1
  obtain ⟨r, hr2, rfl⟩ := sm_in_nI hr
  obtain ⟨t, ht2, rfl⟩ := sm_in_nI ht
  rw [tn_nI (by omega), tn_nI (by omega)] at hs
  have loop : ∀ m q, m = nQ c - q → q ≤ nQ c → (∀ u, u < q → dc (clC c r t u) = false) → ∀ v4 v5, J 2 [some (.ref 53), some (.int (nI r)), some (.int (nI t)), some (.int (nI q)), v4, v5] [] g := by
    intro m
    induction m with
    | zero =>
      intro q hm hq hu v4 v5
      obtain rfl : q = nQ c := by omega
      have hs : K (some (.int (sI 0))) g := by unfold fcC at hs; rw [ffst_none hu] at hs; exact hs
      apply hR 60
      simp (maxSteps := 10000000) (disch := omega) only [hS, hn, sm_eqs, hf, ha, sm_b0, Int.reduceToNat, ↓reduceIte, Nat.reduceEqDiff, true_and, and_true, List.length_nil, List.length_cons, Nat.reduceAdd, Nat.reduceLeDiff, Nat.zero_le, false_implies, true_implies, not_true_eq_false, not_false_eq_true, implies_true, Nat.reduceSub, Nat.reduceMul, Nat.reduceDiv, reduceCtorEq, tn_clamp, nI_t, tn_nI, nI_add, pk_mul, rS_gS, rS_gA, rS_gL, rA_gS, rA_gA, rA_gL, rL_gS, rL_gA, rL_gL, and_self, and_false, false_and, if_true, if_false, true_or, or_true, or_false, false_or, sm_in, eqI, sI_s, Int32.toInt_zero, Int.natCast_zero, Int.natCast_one, Int.cast_ofNat_Int, Int.reduceEq, Int.reduceLT, Int.reduceLE, Int.reduceNeg, Int.reduceNe, ne_eq, n_up, g_up, e_cat, fr_A, fr_O, fr_P, fr_L, sp_X10_knows, sp_X10_mayBe, hq0]
      repeat' (first | (refine And.intro ?_ ?_) | (intro _))
      all_goals (first | with_reducible assumption | omega | (exfalso; omega))
    | succ m ih =>
      intro q hm hq hu v4 v5
      have e6 := h.2.2.1.2.1 r q hr2 (by omega)
      have e9 := h.2.2.1.2.2.1 t q ht2 (by omega)
      have hok : okQ c (nI q) := by unfold okQ; rw [nI_t (by omega)]; omega
      have hyes : clC c r t q → K (some (.int (nI q))) g := fun hcl => by
        have : fcC c r t = some q := ffst_some (dc_t.mpr hcl) hu (by omega)
        rw [this] at hs; exact hs
      have hno : ¬ clC c r t q → J 2 [some (.ref 53), some (.int (nI r)), some (.int (nI t)), some (.int (nI (q + 1))), some (.int (anC c 6 r q)), some (.int (anC c 9 t q))] [] g := fun hcl => ih (q + 1) (by omega) (by omega) (fun u hu2 => by
        by_cases e : u = q
        · rw [e]; exact dc_f.mpr hcl
        · exact hu u (by omega)) _ _
      clear ih hs
      by_cases h1 : (anC c 6 r q).toInt = -1
      · have hno := hno (fun hcl => hcl.1 h1)
        apply hR 60
        simp (maxSteps := 10000000) (disch := omega) only [hS, hn, sm_eqs, hf, ha, sm_b0, Int.reduceToNat, ↓reduceIte, Nat.reduceEqDiff, true_and, and_true, List.length_nil, List.length_cons, Nat.reduceAdd, Nat.reduceLeDiff, Nat.zero_le, false_implies, true_implies, not_true_eq_false, not_false_eq_true, implies_true, Nat.reduceSub, Nat.reduceMul, Nat.reduceDiv, reduceCtorEq, tn_clamp, nI_t, tn_nI, nI_add, pk_mul, rS_gS, rS_gA, rS_gL, rA_gS, rA_gA, rA_gL, rL_gS, rL_gA, rL_gL, and_self, and_false, false_and, if_true, if_false, true_or, or_true, or_false, false_or, sm_in, eqI, sI_s, Int32.toInt_zero, Int.natCast_zero, Int.natCast_one, Int.cast_ofNat_Int, Int.reduceEq, Int.reduceLT, Int.reduceLE, Int.reduceNeg, Int.reduceNe, ne_eq, n_up, g_up, e_cat, fr_A, fr_O, fr_P, fr_L, sp_X10_knows, sp_X10_mayBe, hq0, e6, e9, h1]
        clear hn hf ha hS hR
        repeat' (first | (refine And.intro ?_ ?_) | (intro _))
        all_goals (first | with_reducible assumption | omega | (exfalso; omega))
      · by_cases h2 : (anC c 9 t q).toInt = -1
        · have hno := hno (fun hcl => hcl.2.1 h2)
          apply hR 60
          simp (maxSteps := 10000000) (disch := omega) only [hS, hn, sm_eqs, hf, ha, sm_b0, Int.reduceToNat, ↓reduceIte, Nat.reduceEqDiff, true_and, and_true, List.length_nil, List.length_cons, Nat.reduceAdd, Nat.reduceLeDiff, Nat.zero_le, false_implies, true_implies, not_true_eq_false, not_false_eq_true, implies_true, Nat.reduceSub, Nat.reduceMul, Nat.reduceDiv, reduceCtorEq, tn_clamp, nI_t, tn_nI, nI_add, pk_mul, rS_gS, rS_gA, rS_gL, rA_gS, rA_gA, rA_gL, rL_gS, rL_gA, rL_gL, and_self, and_false, false_and, if_true, if_false, true_or, or_true, or_false, false_or, sm_in, eqI, sI_s, Int32.toInt_zero, Int.natCast_zero, Int.natCast_one, Int.cast_ofNat_Int, Int.reduceEq, Int.reduceLT, Int.reduceLE, Int.reduceNeg, Int.reduceNe, ne_eq, n_up, g_up, e_cat, fr_A, fr_O, fr_P, fr_L, sp_X10_knows, sp_X10_mayBe, hq0, e6, e9, h1, h2]
          clear hn hf ha hS hR
          repeat' (first | (refine And.intro ?_ ?_) | (intro _))
          all_goals (first | with_reducible assumption | omega | (exfalso; omega))
        · obtain ⟨v1, v2, v3⟩ := ag_iff h.1 hr2 ht2 (by omega) h1 h2
          rw [v3] at hyes hno
          apply hR 60
          simp (maxSteps := 10000000) (disch := omega) only [hS, hn, sm_eqs, hf, ha, sm_b0, Int.reduceToNat, ↓reduceIte, Nat.reduceEqDiff, true_and, and_true, List.length_nil, List.length_cons, Nat.reduceAdd, Nat.reduceLeDiff, Nat.zero_le, false_implies, true_implies, not_true_eq_false, not_false_eq_true, implies_true, Nat.reduceSub, Nat.reduceMul, Nat.reduceDiv, reduceCtorEq, tn_clamp, nI_t, tn_nI, nI_add, pk_mul, rS_gS, rS_gA, rS_gL, rA_gS, rA_gA, rA_gL, rL_gS, rL_gA, rL_gL, and_self, and_false, false_and, if_true, if_false, true_or, or_true, or_false, false_or, sm_in, eqI, sI_s, Int32.toInt_zero, Int.natCast_zero, Int.natCast_one, Int.cast_ofNat_Int, Int.reduceEq, Int.reduceLT, Int.reduceLE, Int.reduceNeg, Int.reduceNe, ne_eq, n_up, g_up, e_cat, fr_A, fr_O, fr_P, fr_L, sp_X10_knows, sp_X10_mayBe, hq0, e6, e9, h1, h2, h, hok, v1, v2]
          clear hn hf ha hS hR
          grind
  have h0 := loop _ 0 rfl (Nat.zero_le _) (fun u h => by omega) none none
  apply hR 40
  simp (maxSteps := 10000000) (disch := omega) only [hS, hn, sm_eqs, hf, ha, sm_b0, Int.reduceToNat, ↓reduceIte, Nat.reduceEqDiff, true_and, and_true, List.length_nil, List.length_cons, Nat.reduceAdd, Nat.reduceLeDiff, Nat.zero_le, false_implies, true_implies, not_true_eq_false, not_false_eq_true, implies_true, Nat.reduceSub, Nat.reduceMul, Nat.reduceDiv, reduceCtorEq, tn_clamp, nI_t, tn_nI, nI_add, pk_mul, rS_gS, rS_gA, rS_gL, rA_gS, rA_gA, rA_gL, rL_gS, rL_gA, rL_gL, and_self, and_false, false_and, if_true, if_false, true_or, or_true, or_false, false_or, sm_in, eqI, sI_s, Int32.toInt_zero, Int.natCast_zero, Int.natCast_one, Int.cast_ofNat_Int, Int.reduceEq, Int.reduceLT, Int.reduceLE, Int.reduceNeg, Int.reduceNe, ne_eq, n_up, g_up, e_cat, fr_A, fr_O, fr_P, fr_L, sp_X10_knows, sp_X10_mayBe]
  exact h0
theorem ok_X10_apart (l : Launch) (c : sm_G) : sm_spok l lay sm_mt 2 180 (sp_X10_apart c) := Or.inr (Or.inr (Or.inr ⟨by decide, by decide, by
  rw [mt_180]
  exact sm_method (T := TX10_) v_cok v_lok v_ka v_tok_X10 mok_X10_apart rfl (by unfold sm_rk; simp) (wf_X10_apart c) (List.forall_mem_cons.mpr ⟨sm_spok_up (Nat.le_of_ble_eq_true rfl : 1 ≤ 1) (ok_X10_knows l), List.forall_mem_cons.mpr ⟨sm_spok_up (Nat.le_of_ble_eq_true rfl : 1 ≤ 1) (ok_X10_mayBe l c), fun _ h => absurd h List.not_mem_nil⟩⟩) (b_X10_apart c)⟩))
def sp_X10_isFit (c : sm_G) : sm_SP := fun as g K => match as with
  | [.ref p, .int r, .int t] => p = 53 ∧ CP c g ∧ sm_in r 60 ∧ sm_in t 60 ∧ (fitC c (tn r) (tn t) → K (some (.int (nI 1))) g) ∧ (¬ fitC c (tn r) (tn t) → K (some (.int (nI 0))) g)
  | _ => False
theorem wf_X10_isFit (c : sm_G) : sm_wf lay (yX10_isFit, cX10_isFit, 3, (some .boolean)) 3 false (sp_X10_isFit c) := by
  intro as g K h
  simp only [sp_X10_isFit] at h
  split at h
  · exact ⟨Nat.le_of_ble_eq_true rfl, by simp, rfl, fun _ => by obtain rfl := h.1; exact ⟨53, _, 10, [1, 1, 56, 57, 58, 59, 60, 61, 1, 1, 62, 63, 64, 65, 66, 67, 68, 69, 70, 71, 72, 73, 1, 74, 75, 76, 77, 1, 1, 78, 79, 1, 80, 1, 81, 1, 82, 83, 84, 85, 86, 1], TX10, 42, rfl, rfl, rfl⟩⟩
  · exact h.elim
set_option maxHeartbeats 4000000 in
set_option maxRecDepth 100000 in
theorem b_X10_isFit (c : sm_G) : sm_body lay NX10_isFit 3 1 (sm_cl [(180, sp_X10_apart c)]) (sp_X10_isFit c) := by
  intro K J S hW as g hs
  have hn := n_X10_isFit
  have hf := fd_all
  have ha := ar_all
  generalize NX10_isFit = N at hn hW
  generalize lay = L at hf ha hW
  obtain ⟨hS, hR⟩ := hW
  simp only [sp_X10_isFit] at hs
  split at hs
  case h_2 => exact hs.elim
  simp only [e_args, sm_pad, List.length_cons, List.length_nil, Nat.reduceAdd, Nat.reduceSub, List.replicate_succ, List.replicate_zero, List.cons_append, List.nil_append]
  rename_i p r t
  obtain ⟨rfl, h, hr, ht, h1, h2⟩ := hs
  have hn2 := CP_n h
  simp only [sm_in] at hr ht
  apply hR 40
  simp (maxSteps := 10000000) (disch := omega) only [hS, hn, sm_eqs, hf, ha, sm_b0, Int.reduceToNat, ↓reduceIte, Nat.reduceEqDiff, true_and, and_true, List.length_nil, List.length_cons, Nat.reduceAdd, Nat.reduceLeDiff, Nat.zero_le, false_implies, true_implies, not_true_eq_false, not_false_eq_true, implies_true, Nat.reduceSub, Nat.reduceMul, Nat.reduceDiv, reduceCtorEq, tn_clamp, nI_t, tn_nI, nI_add, pk_mul, rS_gS, rS_gA, rS_gL, rA_gS, rA_gA, rA_gL, rL_gS, rL_gA, rL_gL, and_self, and_false, false_and, if_true, if_false, true_or, or_true, or_false, false_or, sm_in, eqI, sI_s, Int32.toInt_zero, Int.natCast_zero, Int.natCast_one, Int.cast_ofNat_Int, Int.reduceEq, Int.reduceLT, Int.reduceLE, Int.reduceNeg, Int.reduceNe, ne_eq, n_up, g_up, e_cat, fr_A, fr_O, fr_P, fr_L, sp_X10_apart, h, fcC_fit c hn2.1]
  clear hn hf ha hS hR
  repeat' (first | (with_reducible refine And.intro ?_ ?_) | (with_reducible intro _))
  all_goals (first | with_reducible assumption | omega | (exfalso; omega) | grind)
theorem ok_X10_isFit (l : Launch) (c : sm_G) : sm_spok l lay sm_mt 3 181 (sp_X10_isFit c) := Or.inr (Or.inr (Or.inr ⟨by decide, by decide, by
  rw [mt_181]
  exact sm_method (T := TX10_) v_cok v_lok v_ka v_tok_X10 mok_X10_isFit rfl (by unfold sm_rk; simp) (wf_X10_isFit c) (List.forall_mem_cons.mpr ⟨sm_spok_up (Nat.le_of_ble_eq_true rfl : 2 ≤ 2) (ok_X10_apart l c), fun _ h => absurd h List.not_mem_nil⟩) (b_X10_isFit c)⟩))
def sp_X10_isFitIn (c : sm_G) : sm_SP := fun as g K => match as with
  | [.ref p, .int r, .int t] => p = 53 ∧ CP c g ∧ sm_in r 60 ∧ okT c t ∧ (ftC c (tn r) (tn t) → K (some (.int (nI 1))) g) ∧ (¬ ftC c (tn r) (tn t) → K (some (.int (nI 0))) g)
  | _ => False
theorem wf_X10_isFitIn (c : sm_G) : sm_wf lay (yX10_isFitIn, cX10_isFitIn, 3, (some .boolean)) 3 false (sp_X10_isFitIn c) := by
  intro as g K h
  simp only [sp_X10_isFitIn] at h
  split at h
  · exact ⟨Nat.le_of_ble_eq_true rfl, by simp, rfl, fun _ => by obtain rfl := h.1; exact ⟨53, _, 10, [1, 1, 56, 57, 58, 59, 60, 61, 1, 1, 62, 63, 64, 65, 66, 67, 68, 69, 70, 71, 72, 73, 1, 74, 75, 76, 77, 1, 1, 78, 79, 1, 80, 1, 81, 1, 82, 83, 84, 85, 86, 1], TX10, 42, rfl, rfl, rfl⟩⟩
  · exact h.elim
set_option maxHeartbeats 4000000 in
set_option maxRecDepth 100000 in
theorem b_X10_isFitIn (c : sm_G) : sm_body lay NX10_isFitIn 3 1 (sm_cl [(170, sp_X10_isOut c), (181, sp_X10_isFit c)]) (sp_X10_isFitIn c) := by
  intro K J S hW as g hs
  have hn := n_X10_isFitIn
  have hf := fd_all
  have ha := ar_all
  generalize NX10_isFitIn = N at hn hW
  generalize lay = L at hf ha hW
  obtain ⟨hS, hR⟩ := hW
  simp only [sp_X10_isFitIn] at hs
  split at hs
  case h_2 => exact hs.elim
  simp only [e_args, sm_pad, List.length_cons, List.length_nil, Nat.reduceAdd, Nat.reduceSub, List.replicate_succ, List.replicate_zero, List.cons_append, List.nil_append]
  rename_i p r t
  obtain ⟨rfl, h, hr, ht, h1, h2⟩ := hs
  have hn2 := CP_n h
  have htt := okT_60 h.1.2.2.1.1 ht
  simp only [sm_in] at hr
  have hf0 : ftC c (tn r) (tn t) = (whyC c (tn t) = -1 ∧ fitC c (tn r) (tn t)) := rfl
  rw [hf0] at h1 h2
  apply hR 40
  simp (maxSteps := 10000000) (disch := omega) only [hS, hn, sm_eqs, hf, ha, sm_b0, Int.reduceToNat, ↓reduceIte, Nat.reduceEqDiff, true_and, and_true, List.length_nil, List.length_cons, Nat.reduceAdd, Nat.reduceLeDiff, Nat.zero_le, false_implies, true_implies, not_true_eq_false, not_false_eq_true, implies_true, Nat.reduceSub, Nat.reduceMul, Nat.reduceDiv, reduceCtorEq, tn_clamp, nI_t, tn_nI, nI_add, pk_mul, rS_gS, rS_gA, rS_gL, rA_gS, rA_gA, rA_gL, rL_gS, rL_gA, rL_gL, and_self, and_false, false_and, if_true, if_false, true_or, or_true, or_false, false_or, sm_in, eqI, sI_s, Int32.toInt_zero, Int.natCast_zero, Int.natCast_one, Int.cast_ofNat_Int, Int.reduceEq, Int.reduceLT, Int.reduceLE, Int.reduceNeg, Int.reduceNe, ne_eq, n_up, g_up, e_cat, fr_A, fr_O, fr_P, fr_L, sp_X10_isOut, sp_X10_isFit, h, ht]
  clear hn hf ha hS hR
  repeat' (first | (with_reducible refine And.intro ?_ ?_) | (with_reducible intro _))
  all_goals (first | with_reducible assumption | omega | (exfalso; omega) | grind)
theorem ok_X10_isFitIn (l : Launch) (c : sm_G) : sm_spok l lay sm_mt 4 182 (sp_X10_isFitIn c) := Or.inr (Or.inr (Or.inr ⟨by decide, by decide, by
  rw [mt_182]
  exact sm_method (T := TX10_) v_cok v_lok v_ka v_tok_X10 mok_X10_isFitIn rfl (by unfold sm_rk; simp) (wf_X10_isFitIn c) (List.forall_mem_cons.mpr ⟨sm_spok_up (Nat.le_of_ble_eq_true rfl : 1 ≤ 3) (ok_X10_isOut l c), List.forall_mem_cons.mpr ⟨sm_spok_up (Nat.le_of_ble_eq_true rfl : 3 ≤ 3) (ok_X10_isFit l c), fun _ h => absurd h List.not_mem_nil⟩⟩) (b_X10_isFitIn c)⟩))
def sp_X10_fits (c : sm_G) : sm_SP := fun as g K => match as with
  | [.ref p, .int r, .int t] => p = 53 ∧ CP c g ∧ (∀ h, mS g h → CP c h → (okR c r ∧ okT c t ∧ fitC c (tn r) (tn t) → K (some (.int (nI 1))) h) ∧ (okR c r ∧ okT c t ∧ ¬ fitC c (tn r) (tn t) → K (some (.int (nI 0))) h) ∧ (¬ (okR c r ∧ okT c t) → K (some (.int (sI 0))) h))
  | _ => False
theorem wf_X10_fits (c : sm_G) : sm_wf lay (yX10_fits, cX10_fits, 3, (some .int)) 3 false (sp_X10_fits c) := by
  intro as g K h
  simp only [sp_X10_fits] at h
  split at h
  · exact ⟨Nat.le_of_ble_eq_true rfl, by simp, rfl, fun _ => by obtain rfl := h.1; exact ⟨53, _, 10, [1, 1, 56, 57, 58, 59, 60, 61, 1, 1, 62, 63, 64, 65, 66, 67, 68, 69, 70, 71, 72, 73, 1, 74, 75, 76, 77, 1, 1, 78, 79, 1, 80, 1, 81, 1, 82, 83, 84, 85, 86, 1], TX10, 42, rfl, rfl, rfl⟩⟩
  · exact h.elim
set_option maxHeartbeats 4000000 in
set_option maxRecDepth 100000 in
theorem b_X10_fits (c : sm_G) : sm_body lay NX10_fits 3 0 (sm_cl [(169, sp_X10_isReport c), (168, sp_X10_isThing c), (181, sp_X10_isFit c)]) (sp_X10_fits c) := by
  intro K J S hW as g hs
  have hn := n_X10_fits
  have hf := fd_all
  have ha := ar_all
  generalize NX10_fits = N at hn hW
  generalize lay = L at hf ha hW
  obtain ⟨hS, hR⟩ := hW
  simp only [sp_X10_fits] at hs
  split at hs
  case h_2 => exact hs.elim
  simp only [e_args, sm_pad, List.length_cons, List.length_nil, Nat.reduceAdd, Nat.reduceSub, List.replicate_succ, List.replicate_zero, List.cons_append, List.nil_append]
  rename_i p r t
  obtain ⟨rfl, h, hs⟩ := hs
  obtain ⟨h1, h2, h3⟩ := hs (gS g 53 1000 (nI 0)) (mS_S (mS_rf g)) h
  have fr := fun h9 => okR_60 (r := r) h.1.2.1.2.2.2.2.1 h9
  have ft := fun h9 => okT_60 (t := t) h.1.2.2.1.1 h9
  apply hR 40
  simp (maxSteps := 10000000) (disch := omega) only [hS, hn, sm_eqs, hf, ha, sm_b0, Int.reduceToNat, ↓reduceIte, Nat.reduceEqDiff, true_and, and_true, List.length_nil, List.length_cons, Nat.reduceAdd, Nat.reduceLeDiff, Nat.zero_le, false_implies, true_implies, not_true_eq_false, not_false_eq_true, implies_true, Nat.reduceSub, Nat.reduceMul, Nat.reduceDiv, reduceCtorEq, tn_clamp, nI_t, tn_nI, nI_add, pk_mul, rS_gS, rS_gA, rS_gL, rA_gS, rA_gA, rA_gL, rL_gS, rL_gA, rL_gL, and_self, and_false, false_and, if_true, if_false, true_or, or_true, or_false, false_or, sm_in, eqI, sI_s, Int32.toInt_zero, Int.natCast_zero, Int.natCast_one, Int.cast_ofNat_Int, Int.reduceEq, Int.reduceLT, Int.reduceLE, Int.reduceNeg, Int.reduceNe, ne_eq, n_up, g_up, e_cat, fr_A, fr_O, fr_P, fr_L, sp_X10_isReport, sp_X10_isThing, sp_X10_isFit, h, cp_fr]
  clear hn hf ha hS hR
  repeat' (first | (with_reducible refine And.intro ?_ ?_) | (with_reducible intro _))
  all_goals (first | with_reducible assumption | omega | (exfalso; omega) | grind)
theorem ok_X10_fits (l : Launch) (c : sm_G) : sm_spok l lay sm_mt 4 183 (sp_X10_fits c) := Or.inr (Or.inr (Or.inr ⟨by decide, by decide, by
  rw [mt_183]
  exact sm_method (T := TX10_) v_cok v_lok v_ka v_tok_X10 mok_X10_fits rfl (by unfold sm_rk; simp) (wf_X10_fits c) (List.forall_mem_cons.mpr ⟨sm_spok_up (Nat.le_of_ble_eq_true rfl : 2 ≤ 3) (ok_X10_isReport l c), List.forall_mem_cons.mpr ⟨sm_spok_up (Nat.le_of_ble_eq_true rfl : 2 ≤ 3) (ok_X10_isThing l c), List.forall_mem_cons.mpr ⟨sm_spok_up (Nat.le_of_ble_eq_true rfl : 3 ≤ 3) (ok_X10_isFit l c), fun _ h => absurd h List.not_mem_nil⟩⟩⟩) (b_X10_fits c)⟩))
def sp_X10_tells (c : sm_G) : sm_SP := fun as g K => match as with
  | [.ref p, .int r, .int t] => p = 53 ∧ CP c g ∧ (∀ h, mS g h → CP c h → (okR c r ∧ okT c t → K (some (.int (oI (fcC c (tn r) (tn t))))) h) ∧ (¬ (okR c r ∧ okT c t) → K (some (.int (sI 0))) h))
  | _ => False
theorem wf_X10_tells (c : sm_G) : sm_wf lay (yX10_tells, cX10_tells, 3, (some .int)) 3 false (sp_X10_tells c) := by
  intro as g K h
  simp only [sp_X10_tells] at h
  split at h
  · exact ⟨Nat.le_of_ble_eq_true rfl, by simp, rfl, fun _ => by obtain rfl := h.1; exact ⟨53, _, 10, [1, 1, 56, 57, 58, 59, 60, 61, 1, 1, 62, 63, 64, 65, 66, 67, 68, 69, 70, 71, 72, 73, 1, 74, 75, 76, 77, 1, 1, 78, 79, 1, 80, 1, 81, 1, 82, 83, 84, 85, 86, 1], TX10, 42, rfl, rfl, rfl⟩⟩
  · exact h.elim
set_option maxHeartbeats 4000000 in
set_option maxRecDepth 100000 in
theorem b_X10_tells (c : sm_G) : sm_body lay NX10_tells 3 0 (sm_cl [(169, sp_X10_isReport c), (168, sp_X10_isThing c), (180, sp_X10_apart c)]) (sp_X10_tells c) := by
  intro K J S hW as g hs
  have hn := n_X10_tells
  have hf := fd_all
  have ha := ar_all
  generalize NX10_tells = N at hn hW
  generalize lay = L at hf ha hW
  obtain ⟨hS, hR⟩ := hW
  simp only [sp_X10_tells] at hs
  split at hs
  case h_2 => exact hs.elim
  simp only [e_args, sm_pad, List.length_cons, List.length_nil, Nat.reduceAdd, Nat.reduceSub, List.replicate_succ, List.replicate_zero, List.cons_append, List.nil_append]
  rename_i p r t
  obtain ⟨rfl, h, hs⟩ := hs
  obtain ⟨h1, h2⟩ := hs (gS g 53 1000 (nI 0)) (mS_S (mS_rf g)) h
  have fr := fun h9 => okR_60 (r := r) h.1.2.1.2.2.2.2.1 h9
  have ft := fun h9 => okT_60 (t := t) h.1.2.2.1.1 h9
  apply hR 40
  simp (maxSteps := 10000000) (disch := omega) only [hS, hn, sm_eqs, hf, ha, sm_b0, Int.reduceToNat, ↓reduceIte, Nat.reduceEqDiff, true_and, and_true, List.length_nil, List.length_cons, Nat.reduceAdd, Nat.reduceLeDiff, Nat.zero_le, false_implies, true_implies, not_true_eq_false, not_false_eq_true, implies_true, Nat.reduceSub, Nat.reduceMul, Nat.reduceDiv, reduceCtorEq, tn_clamp, nI_t, tn_nI, nI_add, pk_mul, rS_gS, rS_gA, rS_gL, rA_gS, rA_gA, rA_gL, rL_gS, rL_gA, rL_gL, and_self, and_false, false_and, if_true, if_false, true_or, or_true, or_false, false_or, sm_in, eqI, sI_s, Int32.toInt_zero, Int.natCast_zero, Int.natCast_one, Int.cast_ofNat_Int, Int.reduceEq, Int.reduceLT, Int.reduceLE, Int.reduceNeg, Int.reduceNe, ne_eq, n_up, g_up, e_cat, fr_A, fr_O, fr_P, fr_L, sp_X10_isReport, sp_X10_isThing, sp_X10_apart, h, cp_fr]
  clear hn hf ha hS hR
  repeat' (first | (with_reducible refine And.intro ?_ ?_) | (with_reducible intro _))
  all_goals (first | with_reducible assumption | omega | (exfalso; omega) | grind)
theorem ok_X10_tells (l : Launch) (c : sm_G) : sm_spok l lay sm_mt 3 184 (sp_X10_tells c) := Or.inr (Or.inr (Or.inr ⟨by decide, by decide, by
  rw [mt_184]
  exact sm_method (T := TX10_) v_cok v_lok v_ka v_tok_X10 mok_X10_tells rfl (by unfold sm_rk; simp) (wf_X10_tells c) (List.forall_mem_cons.mpr ⟨sm_spok_up (Nat.le_of_ble_eq_true rfl : 2 ≤ 2) (ok_X10_isReport l c), List.forall_mem_cons.mpr ⟨sm_spok_up (Nat.le_of_ble_eq_true rfl : 2 ≤ 2) (ok_X10_isThing l c), List.forall_mem_cons.mpr ⟨sm_spok_up (Nat.le_of_ble_eq_true rfl : 2 ≤ 2) (ok_X10_apart l c), fun _ h => absurd h List.not_mem_nil⟩⟩⟩) (b_X10_tells c)⟩))
def sp_X10_isOpen (c : sm_G) : sm_SP := fun as g K => match as with
  | [.ref p, .int r] => p = 53 ∧ CP c g ∧ (opn c r → K (some (.int (nI 1))) g) ∧ (¬ opn c r → K (some (.int (nI 0))) g)
  | _ => False
theorem wf_X10_isOpen (c : sm_G) : sm_wf lay (yX10_isOpen, cX10_isOpen, 2, (some .boolean)) 2 false (sp_X10_isOpen c) := by
  intro as g K h
  simp only [sp_X10_isOpen] at h
  split at h
  · exact ⟨Nat.le_of_ble_eq_true rfl, by simp, rfl, fun _ => by obtain rfl := h.1; exact ⟨53, _, 10, [1, 1, 56, 57, 58, 59, 60, 61, 1, 1, 62, 63, 64, 65, 66, 67, 68, 69, 70, 71, 72, 73, 1, 74, 75, 76, 77, 1, 1, 78, 79, 1, 80, 1, 81, 1, 82, 83, 84, 85, 86, 1], TX10, 42, rfl, rfl, rfl⟩⟩
  · exact h.elim
set_option maxHeartbeats 4000000 in
set_option maxRecDepth 100000 in
theorem b_X10_isOpen (c : sm_G) : sm_body lay NX10_isOpen 2 1 (sm_cl [(169, sp_X10_isReport c)]) (sp_X10_isOpen c) := by
  intro K J S hW as g hs
  have hn := n_X10_isOpen
  have hf := fd_all
  have ha := ar_all
  generalize NX10_isOpen = N at hn hW
  generalize lay = L at hf ha hW
  obtain ⟨hS, hR⟩ := hW
  simp only [sp_X10_isOpen] at hs
  split at hs
  case h_2 => exact hs.elim
  simp only [e_args, sm_pad, List.length_cons, List.length_nil, Nat.reduceAdd, Nat.reduceSub, List.replicate_succ, List.replicate_zero, List.cons_append, List.nil_append]
  rename_i p r
  obtain ⟨rfl, h, h1, h2⟩ := hs
  have hn2 := CP_n h
  unfold opn at h1 h2
  by_cases ho : okR c r
  · obtain ⟨r, hr, rfl⟩ := ok_nI ho
    have e := h.2.2.1.2.2.2.2.2.2.1 r hr
    rw [tn_nI (by omega)] at h1 h2
    apply hR 40
    simp (maxSteps := 10000000) (disch := omega) only [hS, hn, sm_eqs, hf, ha, sm_b0, Int.reduceToNat, ↓reduceIte, Nat.reduceEqDiff, true_and, and_true, List.length_nil, List.length_cons, Nat.reduceAdd, Nat.reduceLeDiff, Nat.zero_le, false_implies, true_implies, not_true_eq_false, not_false_eq_true, implies_true, Nat.reduceSub, Nat.reduceMul, Nat.reduceDiv, reduceCtorEq, tn_clamp, nI_t, tn_nI, nI_add, pk_mul, rS_gS, rS_gA, rS_gL, rA_gS, rA_gA, rA_gL, rL_gS, rL_gA, rL_gL, and_self, and_false, false_and, if_true, if_false, true_or, or_true, or_false, false_or, sm_in, eqI, sI_s, Int32.toInt_zero, Int.natCast_zero, Int.natCast_one, Int.cast_ofNat_Int, Int.reduceEq, Int.reduceLT, Int.reduceLE, Int.reduceNeg, Int.reduceNe, ne_eq, n_up, g_up, e_cat, fr_A, fr_O, fr_P, fr_L, sp_X10_isReport, h, ho, e]
    clear hn hf ha hS hR
    repeat' (first | (with_reducible refine And.intro ?_ ?_) | (with_reducible intro _))
    all_goals (first | with_reducible assumption | omega | (exfalso; omega) | grind)
  · have h2 := h2 (fun h => ho h.1)
    apply hR 40
    simp (maxSteps := 10000000) (disch := omega) only [hS, hn, sm_eqs, hf, ha, sm_b0, Int.reduceToNat, ↓reduceIte, Nat.reduceEqDiff, true_and, and_true, List.length_nil, List.length_cons, Nat.reduceAdd, Nat.reduceLeDiff, Nat.zero_le, false_implies, true_implies, not_true_eq_false, not_false_eq_true, implies_true, Nat.reduceSub, Nat.reduceMul, Nat.reduceDiv, reduceCtorEq, tn_clamp, nI_t, tn_nI, nI_add, pk_mul, rS_gS, rS_gA, rS_gL, rA_gS, rA_gA, rA_gL, rL_gS, rL_gA, rL_gL, and_self, and_false, false_and, if_true, if_false, true_or, or_true, or_false, false_or, sm_in, eqI, sI_s, Int32.toInt_zero, Int.natCast_zero, Int.natCast_one, Int.cast_ofNat_Int, Int.reduceEq, Int.reduceLT, Int.reduceLE, Int.reduceNeg, Int.reduceNe, ne_eq, n_up, g_up, e_cat, fr_A, fr_O, fr_P, fr_L, sp_X10_isReport, h, ho]
    exact h2
theorem ok_X10_isOpen (l : Launch) (c : sm_G) : sm_spok l lay sm_mt 3 194 (sp_X10_isOpen c) := Or.inr (Or.inr (Or.inr ⟨by decide, by decide, by
  rw [mt_194]
  exact sm_method (T := TX10_) v_cok v_lok v_ka v_tok_X10 mok_X10_isOpen rfl (by unfold sm_rk; simp) (wf_X10_isOpen c) (List.forall_mem_cons.mpr ⟨sm_spok_up (Nat.le_of_ble_eq_true rfl : 2 ≤ 2) (ok_X10_isReport l c), fun _ h => absurd h List.not_mem_nil⟩) (b_X10_isOpen c)⟩))
def sp_X10_like (c : sm_G) : sm_SP := fun as g K => match as with
  | [.ref p, .int a, .int b] => p = 53 ∧ CP c g ∧ (∀ h, mS g h → CP c h → (okT c a ∧ okT c b ∧ alk c (tn a) (tn b) → K (some (.int (nI 1))) h) ∧ (okT c a ∧ okT c b ∧ ¬ alk c (tn a) (tn b) → K (some (.int (nI 0))) h) ∧ (¬ (okT c a ∧ okT c b) → K (some (.int (sI 0))) h))
  | _ => False
theorem wf_X10_like (c : sm_G) : sm_wf lay (yX10_like, cX10_like, 4, (some .int)) 3 false (sp_X10_like c) := by
  intro as g K h
  simp only [sp_X10_like] at h
  split at h
  · exact ⟨Nat.le_of_ble_eq_true rfl, by simp, rfl, fun _ => by obtain rfl := h.1; exact ⟨53, _, 10, [1, 1, 56, 57, 58, 59, 60, 61, 1, 1, 62, 63, 64, 65, 66, 67, 68, 69, 70, 71, 72, 73, 1, 74, 75, 76, 77, 1, 1, 78, 79, 1, 80, 1, 81, 1, 82, 83, 84, 85, 86, 1], TX10, 42, rfl, rfl, rfl⟩⟩
  · exact h.elim
set_option maxHeartbeats 4000000 in
set_option maxRecDepth 100000 in
theorem b_X10_like (c : sm_G) : sm_body lay NX10_like 4 0 (sm_cl [(168, sp_X10_isThing c), (177, sp_X10_knows)]) (sp_X10_like c) := by
  intro K J S hW as g hs
  have hn := n_X10_like
  have hf := fd_all
  have ha := ar_all
  generalize NX10_like = N at hn hW
  generalize lay = L at hf ha hW
  obtain ⟨hS, hR⟩ := hW
  simp only [sp_X10_like] at hs
  split at hs
  case h_2 => exact hs.elim
  simp only [e_args, sm_pad, List.length_cons, List.length_nil, Nat.reduceAdd, Nat.reduceSub, List.replicate_succ, List.replicate_zero, List.cons_append, List.nil_append]
  rename_i p a b
  obtain ⟨rfl, h, hs⟩ := hs
  obtain ⟨h1, h2, h3⟩ := hs (gS g 53 1000 (nI 0)) (mS_S (mS_rf g)) h
  have hn2 := CP_n h
  have hq0 := h.2.1.1
  by_cases ho : okT c a ∧ okT c b
  · obtain ⟨oa, ob⟩ := ho
    obtain ⟨a, ha2, rfl⟩ := ok_nI oa
    obtain ⟨b, hb2, rfl⟩ := ok_nI ob
    rw [tn_nI (by omega), tn_nI (by omega)] at h1 h2
    have h1 := fun x => h1 ⟨oa, ob, x⟩
    have h2 := fun x => h2 ⟨oa, ob, x⟩
    clear h3
    have loop : ∀ m q, m = nQ c - q → q ≤ nQ c → (∀ u, u < q → (anC c 9 a u).toInt = (anC c 9 b u).toInt) → J 25 [some (.ref 53), some (.int (nI a)), some (.int (nI b)), some (.int (nI q))] [] (gS g 53 1000 (nI 0)) := by
      intro m
      induction m with
      | zero =>
        intro q hm hq hu
        obtain rfl : q = nQ c := by omega
        have h1 := h1 hu
        apply hR 60
        simp (maxSteps := 10000000) (disch := omega) only [hS, hn, sm_eqs, hf, ha, sm_b0, Int.reduceToNat, ↓reduceIte, Nat.reduceEqDiff, true_and, and_true, List.length_nil, List.length_cons, Nat.reduceAdd, Nat.reduceLeDiff, Nat.zero_le, false_implies, true_implies, not_true_eq_false, not_false_eq_true, implies_true, Nat.reduceSub, Nat.reduceMul, Nat.reduceDiv, reduceCtorEq, tn_clamp, nI_t, tn_nI, nI_add, pk_mul, rS_gS, rS_gA, rS_gL, rA_gS, rA_gA, rA_gL, rL_gS, rL_gA, rL_gL, and_self, and_false, false_and, if_true, if_false, true_or, or_true, or_false, false_or, sm_in, eqI, sI_s, Int32.toInt_zero, Int.natCast_zero, Int.natCast_one, Int.cast_ofNat_Int, Int.reduceEq, Int.reduceLT, Int.reduceLE, Int.reduceNeg, Int.reduceNe, ne_eq, n_up, g_up, e_cat, fr_A, fr_O, fr_P, fr_L, sp_X10_isThing, sp_X10_knows, hq0]
        repeat' (first | (refine And.intro ?_ ?_) | (intro _))
        all_goals (first | with_reducible assumption | omega | (exfalso; omega))
      | succ m ih =>
        intro q hm hq hu
        have ea := h.2.2.1.2.2.1 a q (by omega) (by omega)
        have eb := h.2.2.1.2.2.1 b q (by omega) (by omega)
        by_cases he : (anC c 9 a q).toInt = (anC c 9 b q).toInt
        · have ih := ih (q + 1) (by omega) (by omega) (fun u hu2 => by
            by_cases e : u = q
            · rw [e]; exact he
            · exact hu u (by omega))
          clear h1 h2
          apply hR 60
          simp (maxSteps := 10000000) (disch := omega) only [hS, hn, sm_eqs, hf, ha, sm_b0, Int.reduceToNat, ↓reduceIte, Nat.reduceEqDiff, true_and, and_true, List.length_nil, List.length_cons, Nat.reduceAdd, Nat.reduceLeDiff, Nat.zero_le, false_implies, true_implies, not_true_eq_false, not_false_eq_true, implies_true, Nat.reduceSub, Nat.reduceMul, Nat.reduceDiv, reduceCtorEq, tn_clamp, nI_t, tn_nI, nI_add, pk_mul, rS_gS, rS_gA, rS_gL, rA_gS, rA_gA, rA_gL, rL_gS, rL_gA, rL_gL, and_self, and_false, false_and, if_true, if_false, true_or, or_true, or_false, false_or, sm_in, eqI, sI_s, Int32.toInt_zero, Int.natCast_zero, Int.natCast_one, Int.cast_ofNat_Int, Int.reduceEq, Int.reduceLT, Int.reduceLE, Int.reduceNeg, Int.reduceNe, ne_eq, n_up, g_up, e_cat, fr_A, fr_O, fr_P, fr_L, sp_X10_isThing, sp_X10_knows, hq0, ea, eb, he]
          clear hn hf ha hS hR
          repeat' (first | (refine And.intro ?_ ?_) | (intro _))
          all_goals (first | with_reducible assumption | omega | (exfalso; omega))
        · have h2 := h2 (fun hal => he (hal q (by omega)))
          clear h1 ih
          apply hR 60
          simp (maxSteps := 10000000) (disch := omega) only [hS, hn, sm_eqs, hf, ha, sm_b0, Int.reduceToNat, ↓reduceIte, Nat.reduceEqDiff, true_and, and_true, List.length_nil, List.length_cons, Nat.reduceAdd, Nat.reduceLeDiff, Nat.zero_le, false_implies, true_implies, not_true_eq_false, not_false_eq_true, implies_true, Nat.reduceSub, Nat.reduceMul, Nat.reduceDiv, reduceCtorEq, tn_clamp, nI_t, tn_nI, nI_add, pk_mul, rS_gS, rS_gA, rS_gL, rA_gS, rA_gA, rA_gL, rL_gS, rL_gA, rL_gL, and_self, and_false, false_and, if_true, if_false, true_or, or_true, or_false, false_or, sm_in, eqI, sI_s, Int32.toInt_zero, Int.natCast_zero, Int.natCast_one, Int.cast_ofNat_Int, Int.reduceEq, Int.reduceLT, Int.reduceLE, Int.reduceNeg, Int.reduceNe, ne_eq, n_up, g_up, e_cat, fr_A, fr_O, fr_P, fr_L, sp_X10_isThing, sp_X10_knows, hq0, ea, eb, he]
          clear hn hf ha hS hR
          repeat' (first | (refine And.intro ?_ ?_) | (intro _))
          all_goals (first | with_reducible assumption | omega | (exfalso; omega))
    have h0 := loop _ 0 rfl (Nat.zero_le _) (fun u h => by omega)
    clear loop h1 h2
    apply hR 60
    simp (maxSteps := 10000000) (disch := omega) only [hS, hn, sm_eqs, hf, ha, sm_b0, Int.reduceToNat, ↓reduceIte, Nat.reduceEqDiff, true_and, and_true, List.length_nil, List.length_cons, Nat.reduceAdd, Nat.reduceLeDiff, Nat.zero_le, false_implies, true_implies, not_true_eq_false, not_false_eq_true, implies_true, Nat.reduceSub, Nat.reduceMul, Nat.reduceDiv, reduceCtorEq, tn_clamp, nI_t, tn_nI, nI_add, pk_mul, rS_gS, rS_gA, rS_gL, rA_gS, rA_gA, rA_gL, rL_gS, rL_gA, rL_gL, and_self, and_false, false_and, if_true, if_false, true_or, or_true, or_false, false_or, sm_in, eqI, sI_s, Int32.toInt_zero, Int.natCast_zero, Int.natCast_one, Int.cast_ofNat_Int, Int.reduceEq, Int.reduceLT, Int.reduceLE, Int.reduceNeg, Int.reduceNe, ne_eq, n_up, g_up, e_cat, fr_A, fr_O, fr_P, fr_L, sp_X10_isThing, sp_X10_knows, h, cp_fr, oa, ob]
    exact h0
  · have h3 := h3 ho
    clear h1 h2
    apply hR 60
    simp (maxSteps := 10000000) (disch := omega) only [hS, hn, sm_eqs, hf, ha, sm_b0, Int.reduceToNat, ↓reduceIte, Nat.reduceEqDiff, true_and, and_true, List.length_nil, List.length_cons, Nat.reduceAdd, Nat.reduceLeDiff, Nat.zero_le, false_implies, true_implies, not_true_eq_false, not_false_eq_true, implies_true, Nat.reduceSub, Nat.reduceMul, Nat.reduceDiv, reduceCtorEq, tn_clamp, nI_t, tn_nI, nI_add, pk_mul, rS_gS, rS_gA, rS_gL, rA_gS, rA_gA, rA_gL, rL_gS, rL_gA, rL_gL, and_self, and_false, false_and, if_true, if_false, true_or, or_true, or_false, false_or, sm_in, eqI, sI_s, Int32.toInt_zero, Int.natCast_zero, Int.natCast_one, Int.cast_ofNat_Int, Int.reduceEq, Int.reduceLT, Int.reduceLE, Int.reduceNeg, Int.reduceNe, ne_eq, n_up, g_up, e_cat, fr_A, fr_O, fr_P, fr_L, sp_X10_isThing, sp_X10_knows, h, cp_fr]
    clear hn hf ha hS hR
    repeat' (first | (with_reducible refine And.intro ?_ ?_) | (with_reducible intro _))
    all_goals (first | with_reducible assumption | omega | (exfalso; omega) | grind)
theorem ok_X10_like (l : Launch) (c : sm_G) : sm_spok l lay sm_mt 3 200 (sp_X10_like c) := Or.inr (Or.inr (Or.inr ⟨by decide, by decide, by
  rw [mt_200]
  exact sm_method (T := TX10_) v_cok v_lok v_ka v_tok_X10 mok_X10_like rfl (by unfold sm_rk; simp) (wf_X10_like c) (List.forall_mem_cons.mpr ⟨sm_spok_up (Nat.le_of_ble_eq_true rfl : 2 ≤ 2) (ok_X10_isThing l c), List.forall_mem_cons.mpr ⟨sm_spok_up (Nat.le_of_ble_eq_true rfl : 1 ≤ 2) (ok_X10_knows l), fun _ h => absurd h List.not_mem_nil⟩⟩) (b_X10_like c)⟩))
