/-! The reference: what is fitted, and into how many classes it is parted. -/
def sp_X10_fitting0 (c : sm_G) : sm_SP := fun as g K => match as with
  | [.ref p, .int r] => p = 53 ∧ CP c g ∧ sm_in r 60 ∧ K (some (.int (nI (cnt (fun t => dc (ftC c (tn r) t)) (nT c))))) g
  | _ => False
theorem wf_X10_fitting0 (c : sm_G) : sm_wf lay (yX10_fitting0, cX10_fitting0, 4, (some .int)) 2 false (sp_X10_fitting0 c) := by
  intro as g K h
  simp only [sp_X10_fitting0] at h
  split at h
  · exact ⟨Nat.le_of_ble_eq_true rfl, by simp, rfl, fun _ => by obtain rfl := h.1; exact ⟨53, _, 10, [1, 1, 56, 57, 58, 59, 60, 61, 1, 1, 62, 63, 64, 65, 66, 67, 68, 69, 70, 71, 72, 73, 1, 74, 75, 76, 77, 1, 1, 78, 79, 1, 80, 1, 81, 1, 82, 83, 84, 85, 86, 1], TX10, 42, rfl, rfl, rfl⟩⟩
  · exact h.elim
set_option maxHeartbeats 4000000 in
set_option maxRecDepth 100000 in
theorem b_X10_fitting0 (c : sm_G) : sm_body lay NX10_fitting0 4 0 (sm_cl [(182, sp_X10_isFitIn c)]) (sp_X10_fitting0 c) := by
  intro K J S hW as g hs
  have hn := n_X10_fitting0
  have hf := fd_all
  have ha := ar_all
  generalize NX10_fitting0 = N at hn hW
  generalize lay = L at hf ha hW
  obtain ⟨hS, hR⟩ := hW
  simp only [sp_X10_fitting0] at hs
  split at hs
  case h_2 => exact hs.elim
  simp only [e_args, sm_pad, List.length_cons, List.length_nil, Nat.reduceAdd, Nat.reduceSub, List.replicate_succ, List.replicate_zero, List.cons_append, List.nil_append]
  rename_i p r
  obtain ⟨rfl, h, hr, hs⟩ := hs
  have hn2 := CP_n h
  have ht0 := h.2.2.2.1.1
  obtain ⟨r, hr2, rfl⟩ := sm_in_nI hr
  rw [tn_nI (by omega)] at hs
  have loop : ∀ m t, m = nT c - t → t ≤ nT c → ∀ n, n = cnt (fun t => dc (ftC c r t)) t → J 4 [some (.ref 53), some (.int (nI r)), some (.int (nI n)), some (.int (nI t))] [] g := by
    intro m
    induction m with
    | zero =>
      intro t hm ht n hn9
      obtain rfl : t = nT c := by omega
      rw [← hn9] at hs
      apply hR 60
      simp (maxSteps := 10000000) (disch := omega) only [hS, hn, sm_eqs, hf, ha, sm_b0, Int.reduceToNat, ↓reduceIte, Nat.reduceEqDiff, true_and, and_true, List.length_nil, List.length_cons, Nat.reduceAdd, Nat.reduceLeDiff, Nat.zero_le, false_implies, true_implies, not_true_eq_false, not_false_eq_true, implies_true, Nat.reduceSub, Nat.reduceMul, Nat.reduceDiv, reduceCtorEq, tn_clamp, nI_t, tn_nI, nI_add, pk_mul, rS_gS, rS_gA, rS_gL, rA_gS, rA_gA, rA_gL, rL_gS, rL_gA, rL_gL, and_self, and_false, false_and, if_true, if_false, true_or, or_true, or_false, false_or, sm_in, eqI, sI_s, Int32.toInt_zero, Int.natCast_zero, Int.natCast_one, Int.cast_ofNat_Int, Int.reduceEq, Int.reduceLT, Int.reduceLE, Int.reduceNeg, Int.reduceNe, ne_eq, n_up, g_up, e_cat, fr_A, fr_O, fr_P, fr_L, sp_X10_isFitIn, ht0]
      repeat' (first | (refine And.intro ?_ ?_) | (intro _))
      all_goals (first | with_reducible assumption | omega | (exfalso; omega))
    | succ m ih =>
      intro t hm ht n hn9
      have hko : okT c (nI t) := by unfold okT; rw [nI_t (by omega)]; omega
      have e1 : ftC c r t → J 4 [some (.ref 53), some (.int (nI r)), some (.int (nI (n + 1))), some (.int (nI (t + 1)))] [] g := fun a => ih (t + 1) (by omega) (by omega) _ (by show _ = cnt (fun t => dc (ftC c r t)) t + (if dc (ftC c r t) = true then 1 else 0); rw [if_pos (dc_t.mpr a), hn9])
      have e0 : ¬ ftC c r t → J 4 [some (.ref 53), some (.int (nI r)), some (.int (nI (n + 0))), some (.int (nI (t + 1)))] [] g := fun a => ih (t + 1) (by omega) (by omega) _ (by show _ = cnt (fun t => dc (ftC c r t)) t + (if dc (ftC c r t) = true then 1 else 0); rw [if_neg (fun b => a (dc_t.mp b)), hn9])
      clear ih hs
      apply hR 60
      simp (maxSteps := 10000000) (disch := omega) only [hS, hn, sm_eqs, hf, ha, sm_b0, Int.reduceToNat, ↓reduceIte, Nat.reduceEqDiff, true_and, and_true, List.length_nil, List.length_cons, Nat.reduceAdd, Nat.reduceLeDiff, Nat.zero_le, false_implies, true_implies, not_true_eq_false, not_false_eq_true, implies_true, Nat.reduceSub, Nat.reduceMul, Nat.reduceDiv, reduceCtorEq, tn_clamp, nI_t, tn_nI, nI_add, pk_mul, rS_gS, rS_gA, rS_gL, rA_gS, rA_gA, rA_gL, rL_gS, rL_gA, rL_gL, and_self, and_false, false_and, if_true, if_false, true_or, or_true, or_false, false_or, sm_in, eqI, sI_s, Int32.toInt_zero, Int.natCast_zero, Int.natCast_one, Int.cast_ofNat_Int, Int.reduceEq, Int.reduceLT, Int.reduceLE, Int.reduceNeg, Int.reduceNe, ne_eq, n_up, g_up, e_cat, fr_A, fr_O, fr_P, fr_L, sp_X10_isFitIn, ht0, h, hko]
      clear hn hf ha hS hR
      repeat' (first | (refine And.intro ?_ ?_) | (intro _))
      all_goals (first | with_reducible assumption | omega | (exfalso; omega) | exact e1 (by assumption) | exact e0 (by assumption))
  have h0 := loop _ 0 rfl (Nat.zero_le _) 0 rfl
  apply hR 40
  simp (maxSteps := 10000000) (disch := omega) only [hS, hn, sm_eqs, hf, ha, sm_b0, Int.reduceToNat, ↓reduceIte, Nat.reduceEqDiff, true_and, and_true, List.length_nil, List.length_cons, Nat.reduceAdd, Nat.reduceLeDiff, Nat.zero_le, false_implies, true_implies, not_true_eq_false, not_false_eq_true, implies_true, Nat.reduceSub, Nat.reduceMul, Nat.reduceDiv, reduceCtorEq, tn_clamp, nI_t, tn_nI, nI_add, pk_mul, rS_gS, rS_gA, rS_gL, rA_gS, rA_gA, rA_gL, rL_gS, rL_gA, rL_gL, and_self, and_false, false_and, if_true, if_false, true_or, or_true, or_false, false_or, sm_in, eqI, sI_s, Int32.toInt_zero, Int.natCast_zero, Int.natCast_one, Int.cast_ofNat_Int, Int.reduceEq, Int.reduceLT, Int.reduceLE, Int.reduceNeg, Int.reduceNe, ne_eq, n_up, g_up, e_cat, fr_A, fr_O, fr_P, fr_L, sp_X10_isFitIn]
  exact h0
theorem ok_X10_fitting0 (l : Launch) (c : sm_G) : sm_spok l lay sm_mt 5 187 (sp_X10_fitting0 c) := Or.inr (Or.inr (Or.inr ⟨by decide, by decide, by
  rw [mt_187]
  exact sm_method (T := TX10_) v_cok v_lok v_ka v_tok_X10 mok_X10_fitting0 rfl (by unfold sm_rk; simp) (wf_X10_fitting0 c) (List.forall_mem_cons.mpr ⟨sm_spok_up (Nat.le_of_ble_eq_true rfl : 4 ≤ 4) (ok_X10_isFitIn l c), fun _ h => absurd h List.not_mem_nil⟩) (b_X10_fitting0 c)⟩))
def sp_X10_fitting (c : sm_G) : sm_SP := fun as g K => match as with
  | [.ref p, .int r] => p = 53 ∧ CP c g ∧ (∀ h, mS g h → CP c h → (okR c r → K (some (.int (nI (cnt (fun t => dc (ftC c (tn r) t)) (nT c))))) h) ∧ (¬ okR c r → K (some (.int (sI 0))) h))
  | _ => False
theorem wf_X10_fitting (c : sm_G) : sm_wf lay (yX10_fitting, cX10_fitting, 2, (some .int)) 2 false (sp_X10_fitting c) := by
  intro as g K h
  simp only [sp_X10_fitting] at h
  split at h
  · exact ⟨Nat.le_of_ble_eq_true rfl, by simp, rfl, fun _ => by obtain rfl := h.1; exact ⟨53, _, 10, [1, 1, 56, 57, 58, 59, 60, 61, 1, 1, 62, 63, 64, 65, 66, 67, 68, 69, 70, 71, 72, 73, 1, 74, 75, 76, 77, 1, 1, 78, 79, 1, 80, 1, 81, 1, 82, 83, 84, 85, 86, 1], TX10, 42, rfl, rfl, rfl⟩⟩
  · exact h.elim
set_option maxHeartbeats 4000000 in
set_option maxRecDepth 100000 in
theorem b_X10_fitting (c : sm_G) : sm_body lay NX10_fitting 2 0 (sm_cl [(169, sp_X10_isReport c), (187, sp_X10_fitting0 c)]) (sp_X10_fitting c) := by
  intro K J S hW as g hs
  have hn := n_X10_fitting
  have hf := fd_all
  have ha := ar_all
  generalize NX10_fitting = N at hn hW
  generalize lay = L at hf ha hW
  obtain ⟨hS, hR⟩ := hW
  simp only [sp_X10_fitting] at hs
  split at hs
  case h_2 => exact hs.elim
  simp only [e_args, sm_pad, List.length_cons, List.length_nil, Nat.reduceAdd, Nat.reduceSub, List.replicate_succ, List.replicate_zero, List.cons_append, List.nil_append]
  rename_i p r
  obtain ⟨rfl, h, hs⟩ := hs
  obtain ⟨h1, h2⟩ := hs (gS g 53 1000 (nI 0)) (mS_S (mS_rf g)) h
  have fr := fun h9 => okR_60 (r := r) h.1.2.1.2.2.2.2.1 h9
  apply hR 40
  simp (maxSteps := 10000000) (disch := omega) only [hS, hn, sm_eqs, hf, ha, sm_b0, Int.reduceToNat, ↓reduceIte, Nat.reduceEqDiff, true_and, and_true, List.length_nil, List.length_cons, Nat.reduceAdd, Nat.reduceLeDiff, Nat.zero_le, false_implies, true_implies, not_true_eq_false, not_false_eq_true, implies_true, Nat.reduceSub, Nat.reduceMul, Nat.reduceDiv, reduceCtorEq, tn_clamp, nI_t, tn_nI, nI_add, pk_mul, rS_gS, rS_gA, rS_gL, rA_gS, rA_gA, rA_gL, rL_gS, rL_gA, rL_gL, and_self, and_false, false_and, if_true, if_false, true_or, or_true, or_false, false_or, sm_in, eqI, sI_s, Int32.toInt_zero, Int.natCast_zero, Int.natCast_one, Int.cast_ofNat_Int, Int.reduceEq, Int.reduceLT, Int.reduceLE, Int.reduceNeg, Int.reduceNe, ne_eq, n_up, g_up, e_cat, fr_A, fr_O, fr_P, fr_L, sp_X10_isReport, sp_X10_fitting0, h, cp_fr]
  clear hn hf ha hS hR
  repeat' (first | (with_reducible refine And.intro ?_ ?_) | (with_reducible intro _))
  all_goals (first | with_reducible assumption | omega | (exfalso; omega) | grind)
theorem ok_X10_fitting (l : Launch) (c : sm_G) : sm_spok l lay sm_mt 6 188 (sp_X10_fitting c) := Or.inr (Or.inr (Or.inr ⟨by decide, by decide, by
  rw [mt_188]
  exact sm_method (T := TX10_) v_cok v_lok v_ka v_tok_X10 mok_X10_fitting rfl (by unfold sm_rk; simp) (wf_X10_fitting c) (List.forall_mem_cons.mpr ⟨sm_spok_up (Nat.le_of_ble_eq_true rfl : 2 ≤ 5) (ok_X10_isReport l c), List.forall_mem_cons.mpr ⟨sm_spok_up (Nat.le_of_ble_eq_true rfl : 5 ≤ 5) (ok_X10_fitting0 l c), fun _ h => absurd h List.not_mem_nil⟩⟩) (b_X10_fitting c)⟩))
def sp_X10_fit (c : sm_G) : sm_SP := fun as g K => match as with
  | [.ref p, .int r, .int k] => p = 53 ∧ CP c g ∧ (∀ h, mS g h → CP c h → (okR c r ∧ 0 ≤ k.toInt → K (some (.int (oI (kth (fun t => dc (ftC c (tn r) t)) (tn k) (nT c))))) h) ∧ (¬ (okR c r ∧ 0 ≤ k.toInt) → K (some (.int (sI 0))) h))
  | _ => False
theorem wf_X10_fit (c : sm_G) : sm_wf lay (yX10_fit, cX10_fit, 5, (some .int)) 3 false (sp_X10_fit c) := by
  intro as g K h
  simp only [sp_X10_fit] at h
  split at h
  · exact ⟨Nat.le_of_ble_eq_true rfl, by simp, rfl, fun _ => by obtain rfl := h.1; exact ⟨53, _, 10, [1, 1, 56, 57, 58, 59, 60, 61, 1, 1, 62, 63, 64, 65, 66, 67, 68, 69, 70, 71, 72, 73, 1, 74, 75, 76, 77, 1, 1, 78, 79, 1, 80, 1, 81, 1, 82, 83, 84, 85, 86, 1], TX10, 42, rfl, rfl, rfl⟩⟩
  · exact h.elim
set_option maxHeartbeats 4000000 in
set_option maxRecDepth 100000 in
theorem b_X10_fit (c : sm_G) : sm_body lay NX10_fit 5 0 (sm_cl [(169, sp_X10_isReport c), (182, sp_X10_isFitIn c)]) (sp_X10_fit c) := by
  intro K J S hW as g hs
  have hn := n_X10_fit
  have hf := fd_all
  have ha := ar_all
  generalize NX10_fit = N at hn hW
  generalize lay = L at hf ha hW
  obtain ⟨hS, hR⟩ := hW
  simp only [sp_X10_fit] at hs
  split at hs
  case h_2 => exact hs.elim
  simp only [e_args, sm_pad, List.length_cons, List.length_nil, Nat.reduceAdd, Nat.reduceSub, List.replicate_succ, List.replicate_zero, List.cons_append, List.nil_append]
  rename_i p r k
  obtain ⟨rfl, h, hs⟩ := hs
  obtain ⟨h1, h2⟩ := hs (gS g 53 1000 (nI 0)) (mS_S (mS_rf g)) h
  have fr := fun h9 => okR_60 (r := r) h.1.2.1.2.2.2.2.1 h9
  have hn2 := CP_n h
  have ht0 := h.2.2.2.1.1
  by_cases hc : okR c r ∧ 0 ≤ k.toInt
  · replace h1 := h1 hc
    have hrr := fr hc.1
    obtain ⟨kk, hkk, ek⟩ : ∃ kk : Nat, kk < 2147483648 ∧ k = nI kk := ⟨tn k, by have := Int32.toInt_lt k; unfold tn; omega, nI_tn hc.2⟩
    rw [ek, tn_nI (by omega)] at h1
    subst ek
    clear h2
    obtain ⟨f, hfd⟩ : ∃ f : Nat → Bool, f = fun t => dc (ftC c (tn r) t) := ⟨_, rfl⟩
    rw [← hfd] at h1
    have hft : ∀ t, f t = true ↔ ftC c (tn r) t := fun t => by rw [hfd]; exact dc_t
    have loop : ∀ m t, m = nT c - t → t ≤ nT c → kth f kk t = none → ∀ l, l + cnt f t = kk → J 24 [some (.ref 53), some (.int r), some (.int (nI kk)), some (.int (nI l)), some (.int (nI t))] [] (gS g 53 1000 (nI 0)) := by
      intro m
      induction m with
      | zero =>
        intro t hm ht hkn l hl
        obtain rfl : t = nT c := by omega
        rw [hkn] at h1
        have h1 : K (some (.int (sI 0))) (gS g 53 1000 (nI 0)) := h1
        apply hR 60
        simp (maxSteps := 10000000) (disch := omega) only [hS, hn, sm_eqs, hf, ha, sm_b0, Int.reduceToNat, ↓reduceIte, Nat.reduceEqDiff, true_and, and_true, List.length_nil, List.length_cons, Nat.reduceAdd, Nat.reduceLeDiff, Nat.zero_le, false_implies, true_implies, not_true_eq_false, not_false_eq_true, implies_true, Nat.reduceSub, Nat.reduceMul, Nat.reduceDiv, reduceCtorEq, tn_clamp, nI_t, tn_nI, nI_add, pk_mul, rS_gS, rS_gA, rS_gL, rA_gS, rA_gA, rA_gL, rL_gS, rL_gA, rL_gL, and_self, and_false, false_and, if_true, if_false, true_or, or_true, or_false, false_or, sm_in, eqI, sI_s, Int32.toInt_zero, Int.natCast_zero, Int.natCast_one, Int.cast_ofNat_Int, Int.reduceEq, Int.reduceLT, Int.reduceLE, Int.reduceNeg, Int.reduceNe, ne_eq, n_up, g_up, e_cat, fr_A, fr_O, fr_P, fr_L, sp_X10_isReport, sp_X10_isFitIn, ht0]
        repeat' (first | (refine And.intro ?_ ?_) | (intro _))
        all_goals (first | with_reducible assumption | omega | (exfalso; omega))
      | succ m ih =>
        intro t hm ht hkn l hl
        have hko : okT c (nI t) := by unfold okT; rw [nI_t (by omega)]; omega
        have hkt : kth f kk (t + 1) = if f t = true ∧ cnt f t = kk then some t else none := by
          simp only [kth]; rw [hkn]
        have hc1 : cnt f (t + 1) = cnt f t + (if f t = true then 1 else 0) := rfl
        have el : ¬ l = 0 → nI l + Int32.ofInt (-1) = nI (l - 1) := fun hl0 => by
          show nI l + sI 0 = nI (l - 1)
          apply Int32.toInt_inj.mp
          rw [Int32.toInt_add, sI_s.1, nI_t (by omega), nI_t (by omega), Int.bmod_eq_of_le (by omega) (by omega)]
          omega
        have e0 : ¬ ftC c (tn r) t → J 24 [some (.ref 53), some (.int r), some (.int (nI kk)), some (.int (nI l)), some (.int (nI (t + 1)))] [] (gS g 53 1000 (nI 0)) := fun a => ih (t + 1) (by omega) (by omega) (by rw [hkt, if_neg (show ¬ (f t = true ∧ cnt f t = kk) from fun b => a ((hft t).mp b.1))]) l (by rw [hc1, if_neg (show ¬ f t = true from fun b => a ((hft t).mp b))]; omega)
        have e2 : ftC c (tn r) t → (l : Int) = 0 → K (some (.int (nI t))) (gS g 53 1000 (nI 0)) := fun a b => by
          have hx : kth f kk (t + 1) = some t := by rw [hkt, if_pos (show f t = true ∧ cnt f t = kk from ⟨(hft t).mpr a, by omega⟩)]
          have hy : ∀ j, kth f kk (t + 1 + j) = some t := by
            intro j
            induction j with
            | zero => exact hx
            | succ j ih =>
              show kth f kk ((t + 1 + j) + 1) = some t
              simp only [kth]; rw [ih]
          have hz := hy (nT c - (t + 1))
          rw [show t + 1 + (nT c - (t + 1)) = nT c by omega] at hz
          rw [hz] at h1; exact h1
        have e1 : ftC c (tn r) t → ¬ (l : Int) = 0 → J 24 [some (.ref 53), some (.int r), some (.int (nI kk)), some (.int (nI l + Int32.ofInt (-1))), some (.int (nI (t + 1)))] [] (gS g 53 1000 (nI 0)) := fun a b => by
          rw [el (by omega)]
          exact ih (t + 1) (by omega) (by omega) (by rw [hkt, if_neg (show ¬ (f t = true ∧ cnt f t = kk) from fun b => by have := b.2; omega)]) (l - 1) (by rw [hc1, if_pos ((hft t).mpr a)]; omega)
        clear ih h1
        apply hR 60
        simp (maxSteps := 10000000) (disch := omega) only [hS, hn, sm_eqs, hf, ha, sm_b0, Int.reduceToNat, ↓reduceIte, Nat.reduceEqDiff, true_and, and_true, List.length_nil, List.length_cons, Nat.reduceAdd, Nat.reduceLeDiff, Nat.zero_le, false_implies, true_implies, not_true_eq_false, not_false_eq_true, implies_true, Nat.reduceSub, Nat.reduceMul, Nat.reduceDiv, reduceCtorEq, tn_clamp, nI_t, tn_nI, nI_add, pk_mul, rS_gS, rS_gA, rS_gL, rA_gS, rA_gA, rA_gL, rL_gS, rL_gA, rL_gL, and_self, and_false, false_and, if_true, if_false, true_or, or_true, or_false, false_or, sm_in, eqI, sI_s, Int32.toInt_zero, Int.natCast_zero, Int.natCast_one, Int.cast_ofNat_Int, Int.reduceEq, Int.reduceLT, Int.reduceLE, Int.reduceNeg, Int.reduceNe, ne_eq, n_up, g_up, e_cat, fr_A, fr_O, fr_P, fr_L, sp_X10_isReport, sp_X10_isFitIn, ht0, h, cp_fr, hko]
        clear hn hf ha hS hR
        repeat' (first | (refine And.intro ?_ ?_) | (intro _))
        all_goals (first | with_reducible assumption | omega | (exfalso; omega) | with_reducible exact e0 (by assumption) | with_reducible exact e1 (by assumption) (by assumption) | with_reducible exact e2 (by assumption) (by assumption))
    have h0 := loop _ 0 rfl (Nat.zero_le _) rfl kk rfl
    have hkz : ¬ (kk : Int) < 0 := by omega
    clear h1 loop
    apply hR 60
    simp (maxSteps := 10000000) (disch := omega) only [hS, hn, sm_eqs, hf, ha, sm_b0, Int.reduceToNat, ↓reduceIte, Nat.reduceEqDiff, true_and, and_true, List.length_nil, List.length_cons, Nat.reduceAdd, Nat.reduceLeDiff, Nat.zero_le, false_implies, true_implies, not_true_eq_false, not_false_eq_true, implies_true, Nat.reduceSub, Nat.reduceMul, Nat.reduceDiv, reduceCtorEq, tn_clamp, nI_t, tn_nI, nI_add, pk_mul, rS_gS, rS_gA, rS_gL, rA_gS, rA_gA, rA_gL, rL_gS, rL_gA, rL_gL, and_self, and_false, false_and, if_true, if_false, true_or, or_true, or_false, false_or, sm_in, eqI, sI_s, Int32.toInt_zero, Int.natCast_zero, Int.natCast_one, Int.cast_ofNat_Int, Int.reduceEq, Int.reduceLT, Int.reduceLE, Int.reduceNeg, Int.reduceNe, ne_eq, n_up, g_up, e_cat, fr_A, fr_O, fr_P, fr_L, sp_X10_isReport, sp_X10_isFitIn, h, cp_fr, hc.1, hkz]
    exact h0
  · have h2 := h2 hc
    clear h1
    have hc2 : okR c r → k.toInt < 0 := fun a => by
      refine Classical.byContradiction (fun b => hc ⟨a, by omega⟩)
    by_cases ho : okR c r
    · have hk0 := hc2 ho
      apply hR 60
      simp (maxSteps := 10000000) (disch := omega) only [hS, hn, sm_eqs, hf, ha, sm_b0, Int.reduceToNat, ↓reduceIte, Nat.reduceEqDiff, true_and, and_true, List.length_nil, List.length_cons, Nat.reduceAdd, Nat.reduceLeDiff, Nat.zero_le, false_implies, true_implies, not_true_eq_false, not_false_eq_true, implies_true, Nat.reduceSub, Nat.reduceMul, Nat.reduceDiv, reduceCtorEq, tn_clamp, nI_t, tn_nI, nI_add, pk_mul, rS_gS, rS_gA, rS_gL, rA_gS, rA_gA, rA_gL, rL_gS, rL_gA, rL_gL, and_self, and_false, false_and, if_true, if_false, true_or, or_true, or_false, false_or, sm_in, eqI, sI_s, Int32.toInt_zero, Int.natCast_zero, Int.natCast_one, Int.cast_ofNat_Int, Int.reduceEq, Int.reduceLT, Int.reduceLE, Int.reduceNeg, Int.reduceNe, ne_eq, n_up, g_up, e_cat, fr_A, fr_O, fr_P, fr_L, sp_X10_isReport, sp_X10_isFitIn, h, cp_fr, ho, hk0]
      exact h2
    · apply hR 60
      simp (maxSteps := 10000000) (disch := omega) only [hS, hn, sm_eqs, hf, ha, sm_b0, Int.reduceToNat, ↓reduceIte, Nat.reduceEqDiff, true_and, and_true, List.length_nil, List.length_cons, Nat.reduceAdd, Nat.reduceLeDiff, Nat.zero_le, false_implies, true_implies, not_true_eq_false, not_false_eq_true, implies_true, Nat.reduceSub, Nat.reduceMul, Nat.reduceDiv, reduceCtorEq, tn_clamp, nI_t, tn_nI, nI_add, pk_mul, rS_gS, rS_gA, rS_gL, rA_gS, rA_gA, rA_gL, rL_gS, rL_gA, rL_gL, and_self, and_false, false_and, if_true, if_false, true_or, or_true, or_false, false_or, sm_in, eqI, sI_s, Int32.toInt_zero, Int.natCast_zero, Int.natCast_one, Int.cast_ofNat_Int, Int.reduceEq, Int.reduceLT, Int.reduceLE, Int.reduceNeg, Int.reduceNe, ne_eq, n_up, g_up, e_cat, fr_A, fr_O, fr_P, fr_L, sp_X10_isReport, sp_X10_isFitIn, h, cp_fr, ho]
      exact h2
theorem ok_X10_fit (l : Launch) (c : sm_G) : sm_spok l lay sm_mt 5 189 (sp_X10_fit c) := Or.inr (Or.inr (Or.inr ⟨by decide, by decide, by
  rw [mt_189]
  exact sm_method (T := TX10_) v_cok v_lok v_ka v_tok_X10 mok_X10_fit rfl (by unfold sm_rk; simp) (wf_X10_fit c) (List.forall_mem_cons.mpr ⟨sm_spok_up (Nat.le_of_ble_eq_true rfl : 2 ≤ 4) (ok_X10_isReport l c), List.forall_mem_cons.mpr ⟨sm_spok_up (Nat.le_of_ble_eq_true rfl : 4 ≤ 4) (ok_X10_isFitIn l c), fun _ h => absurd h List.not_mem_nil⟩⟩) (b_X10_fit c)⟩))
noncomputable def ftL (c : sm_G) (r : Nat) : List Nat := lst (fun t => dc (ftC c r t)) (nT c)
theorem ftL_len (c : sm_G) (r : Nat) : (ftL c r).length = cnt (fun t => dc (ftC c r t)) (nT c) := lst_len _ _
def sp_X10_findFitted (c : sm_G) : sm_SP := fun as g K => match as with
  | [.ref p, .int r] => p = 53 ∧ CP c g ∧ sm_in r 60 ∧ (∀ F, hol F (ftL c (tn r)) → K none (gS (gA g 78 F) 53 1033 (nI (ftL c (tn r)).length)))
  | _ => False
theorem wf_X10_findFitted (c : sm_G) : sm_wf lay (yX10_findFitted, cX10_findFitted, 3, none) 2 false (sp_X10_findFitted c) := by
  intro as g K h
  simp only [sp_X10_findFitted] at h
  split at h
  · exact ⟨Nat.le_of_ble_eq_true rfl, by simp, rfl, fun _ => by obtain rfl := h.1; exact ⟨53, _, 10, [1, 1, 56, 57, 58, 59, 60, 61, 1, 1, 62, 63, 64, 65, 66, 67, 68, 69, 70, 71, 72, 73, 1, 74, 75, 76, 77, 1, 1, 78, 79, 1, 80, 1, 81, 1, 82, 83, 84, 85, 86, 1], TX10, 42, rfl, rfl, rfl⟩⟩
  · exact h.elim
set_option maxHeartbeats 4000000 in
set_option maxRecDepth 100000 in
theorem b_X10_findFitted (c : sm_G) : sm_body lay NX10_findFitted 3 4 (sm_cl [(182, sp_X10_isFitIn c)]) (sp_X10_findFitted c) := by
  intro K J S hW as g hs
  have hn := n_X10_findFitted
  have hf := fd_all
  have ha := ar_all
  generalize NX10_findFitted = N at hn hW
  generalize lay = L at hf ha hW
  obtain ⟨hS, hR⟩ := hW
  simp only [sp_X10_findFitted] at hs
  split at hs
  case h_2 => exact hs.elim
  simp only [e_args, sm_pad, List.length_cons, List.length_nil, Nat.reduceAdd, Nat.reduceSub, List.replicate_succ, List.replicate_zero, List.cons_append, List.nil_append]
  rename_i p r
  obtain ⟨rfl, h, hr, hs⟩ := hs
  have hn2 := CP_n h
  have ht0 := h.2.2.2.1.1
  obtain ⟨r, hr2, rfl⟩ := sm_in_nI hr
  rw [tn_nI (by omega)] at hs
  have loop : ∀ m t, m = nT c - t → t ≤ nT c → ∀ F n, hol F (lst (fun t => dc (ftC c r t)) t) → n = cnt (fun t => dc (ftC c r t)) t → J 7 [some (.ref 53), some (.int (nI r)), some (.int (nI t))] [] (gS (gA g 78 F) 53 1033 (nI n)) := by
    intro m
    induction m with
    | zero =>
      intro t hm ht F n hF hn9
      obtain rfl : t = nT c := by omega
      have hs := hs F hF
      rw [ftL_len, ← hn9] at hs
      apply hR 60
      simp (maxSteps := 10000000) (disch := omega) only [hS, hn, sm_eqs, hf, ha, sm_b0, Int.reduceToNat, ↓reduceIte, Nat.reduceEqDiff, true_and, and_true, List.length_nil, List.length_cons, Nat.reduceAdd, Nat.reduceLeDiff, Nat.zero_le, false_implies, true_implies, not_true_eq_false, not_false_eq_true, implies_true, Nat.reduceSub, Nat.reduceMul, Nat.reduceDiv, reduceCtorEq, tn_clamp, nI_t, tn_nI, nI_add, pk_mul, rS_gS, rS_gA, rS_gL, rA_gS, rA_gA, rA_gL, rL_gS, rL_gA, rL_gL, and_self, and_false, false_and, if_true, if_false, true_or, or_true, or_false, false_or, sm_in, eqI, sI_s, Int32.toInt_zero, Int.natCast_zero, Int.natCast_one, Int.cast_ofNat_Int, Int.reduceEq, Int.reduceLT, Int.reduceLE, Int.reduceNeg, Int.reduceNe, ne_eq, n_up, g_up, e_cat, fr_A, fr_O, fr_P, fr_L, sp_X10_isFitIn, ht0]
      repeat' (first | (refine And.intro ?_ ?_) | (intro _))
      all_goals (first | with_reducible assumption | omega | (exfalso; omega))
    | succ m ih =>
      intro t hm ht F n hF hn9
      have hko : okT c (nI t) := by unfold okT; rw [nI_t (by omega)]; omega
      have hcl := cnt_le (fun t => dc (ftC c r t)) t
      have hlen : (lst (fun t => dc (ftC c r t)) t).length = n := by rw [lst_len, hn9]
      have e1 : ftC c r t → J 7 [some (.ref 53), some (.int (nI r)), some (.int (nI (t + 1)))] [] (gS (gA g 78 (upd F n (nI t))) 53 1033 (nI (n + 1))) := fun a => ih (t + 1) (by omega) (by omega) _ _ (by
        have := hol_add hF t
        rw [hlen] at this
        simp only [lst]; rw [if_pos (dc_t.mpr a)]; exact this) (by show _ = cnt (fun t => dc (ftC c r t)) t + (if dc (ftC c r t) = true then 1 else 0); rw [if_pos (dc_t.mpr a), hn9])
      have e0 : ¬ ftC c r t → J 7 [some (.ref 53), some (.int (nI r)), some (.int (nI (t + 1)))] [] (gS (gA g 78 F) 53 1033 (nI n)) := fun a => ih (t + 1) (by omega) (by omega) _ _ (by
        simp only [lst]; rw [if_neg (fun b => a (dc_t.mp b))]; exact hF) (by show _ = cnt (fun t => dc (ftC c r t)) t + (if dc (ftC c r t) = true then 1 else 0); rw [if_neg (fun b => a (dc_t.mp b)), hn9]; rfl)
      have hn60 : n ≤ 59 := by omega
      clear ih hs
      apply hR 60
      simp (maxSteps := 10000000) (disch := omega) only [hS, hn, sm_eqs, hf, ha, sm_b0, Int.reduceToNat, ↓reduceIte, Nat.reduceEqDiff, true_and, and_true, List.length_nil, List.length_cons, Nat.reduceAdd, Nat.reduceLeDiff, Nat.zero_le, false_implies, true_implies, not_true_eq_false, not_false_eq_true, implies_true, Nat.reduceSub, Nat.reduceMul, Nat.reduceDiv, reduceCtorEq, tn_clamp, nI_t, tn_nI, nI_add, pk_mul, rS_gS, rS_gA, rS_gL, rA_gS, rA_gA, rA_gL, rL_gS, rL_gA, rL_gL, and_self, and_false, false_and, if_true, if_false, true_or, or_true, or_false, false_or, sm_in, eqI, sI_s, Int32.toInt_zero, Int.natCast_zero, Int.natCast_one, Int.cast_ofNat_Int, Int.reduceEq, Int.reduceLT, Int.reduceLE, Int.reduceNeg, Int.reduceNe, ne_eq, n_up, g_up, e_cat, fr_A, fr_O, fr_P, fr_L, sp_X10_isFitIn, ht0, h, cp_fr, hko]
      clear hn hf ha hS hR
      repeat' (first | (refine And.intro ?_ ?_) | (intro _))
      all_goals (first | with_reducible assumption | omega | (exfalso; omega) | exact e1 (by assumption) | exact e0 (by assumption))
  have h0 := loop _ 0 rfl (Nat.zero_le _) (rA g 78) 0 (fun k x h => by cases h) rfl
  rw [gA_self] at h0
  clear hs loop
  apply hR 40
  simp (maxSteps := 10000000) (disch := omega) only [hS, hn, sm_eqs, hf, ha, sm_b0, Int.reduceToNat, ↓reduceIte, Nat.reduceEqDiff, true_and, and_true, List.length_nil, List.length_cons, Nat.reduceAdd, Nat.reduceLeDiff, Nat.zero_le, false_implies, true_implies, not_true_eq_false, not_false_eq_true, implies_true, Nat.reduceSub, Nat.reduceMul, Nat.reduceDiv, reduceCtorEq, tn_clamp, nI_t, tn_nI, nI_add, pk_mul, rS_gS, rS_gA, rS_gL, rA_gS, rA_gA, rA_gL, rL_gS, rL_gA, rL_gL, and_self, and_false, false_and, if_true, if_false, true_or, or_true, or_false, false_or, sm_in, eqI, sI_s, Int32.toInt_zero, Int.natCast_zero, Int.natCast_one, Int.cast_ofNat_Int, Int.reduceEq, Int.reduceLT, Int.reduceLE, Int.reduceNeg, Int.reduceNe, ne_eq, n_up, g_up, e_cat, fr_A, fr_O, fr_P, fr_L, sp_X10_isFitIn]
  exact h0
theorem ok_X10_findFitted (l : Launch) (c : sm_G) : sm_spok l lay sm_mt 5 201 (sp_X10_findFitted c) := Or.inr (Or.inr (Or.inr ⟨by decide, by decide, by
  rw [mt_201]
  exact sm_method (T := TX10_) v_cok v_lok v_ka v_tok_X10 mok_X10_findFitted rfl (by unfold sm_rk; simp) (wf_X10_findFitted c) (List.forall_mem_cons.mpr ⟨sm_spok_up (Nat.le_of_ble_eq_true rfl : 4 ≤ 4) (ok_X10_isFitIn l c), fun _ h => absurd h List.not_mem_nil⟩) (b_X10_findFitted c)⟩))
