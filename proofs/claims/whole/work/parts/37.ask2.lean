/-! Asking: classes counted, the distinct ones listed. -/
noncomputable def clsN (g : sm_G) (s : Int64) (q : Nat) : Nat := cnt (fun t => dc (fcl g s q t)) 60
def sp_X0_countClasses : sm_SP := fun as g K => match as with
  | [.ref p, .long s, .int q] => p = 46 ∧ sm_in q 16 ∧ K (some (.int (nI (clsN g s (tn q))))) g
  | _ => False
theorem wf_X0_countClasses : sm_wf lay (yX0_countClasses, cX0_countClasses, 6, (some .int)) 3 false sp_X0_countClasses := by
  intro as g K h
  simp only [sp_X0_countClasses] at h
  split at h
  · exact ⟨Nat.le_of_ble_eq_true rfl, by simp, rfl, fun _ => by obtain rfl := h.1; exact ⟨46, _, 0, [3, 11, 49, 50, 51, 1], TX0, 6, rfl, rfl, rfl⟩⟩
  · exact h.elim
set_option maxHeartbeats 4000000 in
set_option maxRecDepth 100000 in
theorem b_X0_countClasses : sm_body lay NX0_countClasses 6 0 (sm_cl [(132, sp_X9_isIn), (4, sp_X0_isFirstOfClass)]) sp_X0_countClasses := by
  intro K J S hW as g hs
  have hn := n_X0_countClasses
  have hf := fd_all
  have ha := ar_all
  generalize NX0_countClasses = N at hn hW
  generalize lay = L at hf ha hW
  obtain ⟨hS, hR⟩ := hW
  simp only [sp_X0_countClasses] at hs
  split at hs
  case h_2 => exact hs.elim
  simp only [e_args, sm_pad, List.length_cons, List.length_nil, Nat.reduceAdd, Nat.reduceSub, List.replicate_succ, List.replicate_zero, List.cons_append, List.nil_append]
  rename_i p s q
  obtain ⟨rfl, hq, hs⟩ := hs
  obtain ⟨q, hq2, rfl⟩ := sm_in_nI hq
  simp (disch := omega) only [tn_nI] at hs
  have loop : ∀ m t, m = 60 - t → t ≤ 60 → J 6 [some (.ref 46), some (.long s), none, some (.int (nI q)), some (.int (nI (cnt (fun t => dc (fcl g s q t)) t))), some (.int (nI t))] [] g := by
    intro m
    induction m with
    | zero =>
      intro t hm ht
      obtain rfl : t = 60 := by omega
      unfold clsN at hs
      apply hR 60
      simp (maxSteps := 10000000) (disch := omega) only [hS, hn, sm_eqs, hf, ha, sm_b0, Int.reduceToNat, ↓reduceIte, Nat.reduceEqDiff, true_and, and_true, List.length_nil, List.length_cons, Nat.reduceAdd, Nat.reduceLeDiff, Nat.zero_le, false_implies, true_implies, not_true_eq_false, not_false_eq_true, implies_true, Nat.reduceSub, Nat.reduceMul, Nat.reduceDiv, reduceCtorEq, tn_clamp, nI_t, tn_nI, nI_add, pk_mul, rS_gS, rS_gA, rS_gL, rA_gS, rA_gA, rA_gL, rL_gS, rL_gA, rL_gL, and_self, and_false, false_and, if_true, if_false, true_or, or_true, or_false, false_or, sm_in, eqI, sI_s, Int32.toInt_zero, Int.natCast_zero, Int.natCast_one, Int.cast_ofNat_Int, Int.reduceEq, Int.reduceLT, Int.reduceLE, Int.reduceNeg, Int.reduceNe, ne_eq, n_up, g_up, e_cat, fr_A, fr_O, fr_P, fr_L, sp_X9_isIn, sp_X0_isFirstOfClass]
      repeat' (first | (refine And.intro ?_ ?_) | (intro _))
      all_goals (first | with_reducible assumption | omega | (exfalso; omega))
    | succ m ih =>
      intro t hm ht
      have ih := ih (t + 1) (by omega) (by omega)
      simp only [cnt] at ih
      clear hs
      cases hb : bitL s t with
      | false =>
        rw [if_neg (fun h => by have := (dc_t.mp h).1; rw [hb] at this; cases this)] at ih
        apply hR 60
        simp (maxSteps := 10000000) (disch := omega) only [hS, hn, sm_eqs, hf, ha, sm_b0, Int.reduceToNat, ↓reduceIte, Nat.reduceEqDiff, true_and, and_true, List.length_nil, List.length_cons, Nat.reduceAdd, Nat.reduceLeDiff, Nat.zero_le, false_implies, true_implies, not_true_eq_false, not_false_eq_true, implies_true, Nat.reduceSub, Nat.reduceMul, Nat.reduceDiv, reduceCtorEq, tn_clamp, nI_t, tn_nI, nI_add, pk_mul, rS_gS, rS_gA, rS_gL, rA_gS, rA_gA, rA_gL, rL_gS, rL_gA, rL_gL, and_self, and_false, false_and, if_true, if_false, true_or, or_true, or_false, false_or, sm_in, eqI, sI_s, Int32.toInt_zero, Int.natCast_zero, Int.natCast_one, Int.cast_ofNat_Int, Int.reduceEq, Int.reduceLT, Int.reduceLE, Int.reduceNeg, Int.reduceNe, ne_eq, n_up, g_up, e_cat, fr_A, fr_O, fr_P, fr_L, sp_X9_isIn, sp_X0_isFirstOfClass, hb]
        clear hn hf ha hS hR
        repeat' (first | (refine And.intro ?_ ?_) | (intro _))
        all_goals (first | with_reducible assumption | omega | (exfalso; omega))
      | true =>
        have e1 := fun (h : ∀ u, u < t → bitL s u = true → (anC g 9 u q).toInt ≠ (anC g 9 t q).toInt) => by rw [if_pos (dc_t.mpr ⟨hb, h⟩)] at ih; exact ih
        have e0 := fun (h : ¬ ∀ u, u < t → bitL s u = true → (anC g 9 u q).toInt ≠ (anC g 9 t q).toInt) => by rw [if_neg (fun h2 => h (dc_t.mp h2).2)] at ih; exact ih
        simp only [ne_eq] at e1 e0
        apply hR 60
        simp (maxSteps := 10000000) (disch := omega) only [hS, hn, sm_eqs, hf, ha, sm_b0, Int.reduceToNat, ↓reduceIte, Nat.reduceEqDiff, true_and, and_true, List.length_nil, List.length_cons, Nat.reduceAdd, Nat.reduceLeDiff, Nat.zero_le, false_implies, true_implies, not_true_eq_false, not_false_eq_true, implies_true, Nat.reduceSub, Nat.reduceMul, Nat.reduceDiv, reduceCtorEq, tn_clamp, nI_t, tn_nI, nI_add, pk_mul, rS_gS, rS_gA, rS_gL, rA_gS, rA_gA, rA_gL, rL_gS, rL_gA, rL_gL, and_self, and_false, false_and, if_true, if_false, true_or, or_true, or_false, false_or, sm_in, eqI, sI_s, Int32.toInt_zero, Int.natCast_zero, Int.natCast_one, Int.cast_ofNat_Int, Int.reduceEq, Int.reduceLT, Int.reduceLE, Int.reduceNeg, Int.reduceNe, ne_eq, n_up, g_up, e_cat, fr_A, fr_O, fr_P, fr_L, sp_X9_isIn, sp_X0_isFirstOfClass, hb]
        clear hn hf ha hS hR
        repeat' (first | (refine And.intro ?_ ?_) | (intro _))
        all_goals (first | with_reducible assumption | omega | (exfalso; omega) | exact e1 (by assumption) | exact e0 (by assumption))
  apply hR 40
  simp (maxSteps := 10000000) (disch := omega) only [hS, hn, sm_eqs, hf, ha, sm_b0, Int.reduceToNat, ↓reduceIte, Nat.reduceEqDiff, true_and, and_true, List.length_nil, List.length_cons, Nat.reduceAdd, Nat.reduceLeDiff, Nat.zero_le, false_implies, true_implies, not_true_eq_false, not_false_eq_true, implies_true, Nat.reduceSub, Nat.reduceMul, Nat.reduceDiv, reduceCtorEq, tn_clamp, nI_t, tn_nI, nI_add, pk_mul, rS_gS, rS_gA, rS_gL, rA_gS, rA_gA, rA_gL, rL_gS, rL_gA, rL_gL, and_self, and_false, false_and, if_true, if_false, true_or, or_true, or_false, false_or, sm_in, eqI, sI_s, Int32.toInt_zero, Int.natCast_zero, Int.natCast_one, Int.cast_ofNat_Int, Int.reduceEq, Int.reduceLT, Int.reduceLE, Int.reduceNeg, Int.reduceNe, ne_eq, n_up, g_up, e_cat, fr_A, fr_O, fr_P, fr_L, sp_X9_isIn, sp_X0_isFirstOfClass]
  exact loop _ 0 rfl (Nat.zero_le _)
theorem ok_X0_countClasses (l : Launch) : sm_spok l lay sm_mt 4 3 sp_X0_countClasses := Or.inr (Or.inr (Or.inr ⟨by decide, by decide, by
  rw [mt_3]
  exact sm_method (T := TX0_) v_cok v_lok v_ka v_tok_X0 mok_X0_countClasses rfl (by unfold sm_rk; simp) wf_X0_countClasses (List.forall_mem_cons.mpr ⟨sm_spok_up (Nat.le_of_ble_eq_true rfl : 1 ≤ 3) (ok_X9_isIn l), List.forall_mem_cons.mpr ⟨sm_spok_up (Nat.le_of_ble_eq_true rfl : 3 ≤ 3) (ok_X0_isFirstOfClass l), fun _ h => absurd h List.not_mem_nil⟩⟩) b_X0_countClasses⟩))
/-- the question with the greatest number, the first of several: the best so far, and its number -/
def mpq (f : Nat → Nat) : Nat → Option Nat × Nat
  | 0 => (none, 1)
  | n + 1 => if (mpq f n).2 < f n then (some n, f n) else mpq f n
def sp_X0_mostParting : sm_SP := fun as g K => match as with
  | [.ref p, .long s] => p = 46 ∧ zQ g ∧ K (some (.int (oI (mpq (clsN g s) (nQ g)).1))) g
  | _ => False
theorem wf_X0_mostParting : sm_wf lay (yX0_mostParting, cX0_mostParting, 7, (some .int)) 2 false sp_X0_mostParting := by
  intro as g K h
  simp only [sp_X0_mostParting] at h
  split at h
  · exact ⟨Nat.le_of_ble_eq_true rfl, by simp, rfl, fun _ => by obtain rfl := h.1; exact ⟨46, _, 0, [3, 11, 49, 50, 51, 1], TX0, 6, rfl, rfl, rfl⟩⟩
  · exact h.elim
set_option maxHeartbeats 4000000 in
set_option maxRecDepth 100000 in
theorem b_X0_mostParting : sm_body lay NX0_mostParting 7 0 (sm_cl [(65, sp_X5_size), (3, sp_X0_countClasses)]) sp_X0_mostParting := by
  intro K J S hW as g hs
  have hn := n_X0_mostParting
  have hf := fd_all
  have ha := ar_all
  generalize NX0_mostParting = N at hn hW
  generalize lay = L at hf ha hW
  obtain ⟨hS, hR⟩ := hW
  simp only [sp_X0_mostParting] at hs
  split at hs
  case h_2 => exact hs.elim
  simp only [e_args, sm_pad, List.length_cons, List.length_nil, Nat.reduceAdd, Nat.reduceSub, List.replicate_succ, List.replicate_zero, List.cons_append, List.nil_append]
  rename_i p s
  obtain ⟨rfl, z, hs⟩ := hs
  have z2 := z.2
  have loop : ∀ m q, m = nQ g - q → q ≤ nQ g → ∀ v6, J 8 [some (.ref 46), some (.long s), none, some (.int (oI (mpq (clsN g s) q).1)), some (.int (nI (mpq (clsN g s) q).2)), some (.int (nI q)), v6] [] g := by
    intro m
    induction m with
    | zero =>
      intro q hm hq v6
      obtain rfl : q = nQ g := by omega
      apply hR 60
      simp (maxSteps := 10000000) (disch := omega) only [hS, hn, sm_eqs, hf, ha, sm_b0, Int.reduceToNat, ↓reduceIte, Nat.reduceEqDiff, true_and, and_true, List.length_nil, List.length_cons, Nat.reduceAdd, Nat.reduceLeDiff, Nat.zero_le, false_implies, true_implies, not_true_eq_false, not_false_eq_true, implies_true, Nat.reduceSub, Nat.reduceMul, Nat.reduceDiv, reduceCtorEq, tn_clamp, nI_t, tn_nI, nI_add, pk_mul, rS_gS, rS_gA, rS_gL, rA_gS, rA_gA, rA_gL, rL_gS, rL_gA, rL_gL, and_self, and_false, false_and, if_true, if_false, true_or, or_true, or_false, false_or, sm_in, eqI, sI_s, Int32.toInt_zero, Int.natCast_zero, Int.natCast_one, Int.cast_ofNat_Int, Int.reduceEq, Int.reduceLT, Int.reduceLE, Int.reduceNeg, Int.reduceNe, ne_eq, n_up, g_up, e_cat, fr_A, fr_O, fr_P, fr_L, sp_X5_size, sp_X0_countClasses, z]
      repeat' (first | (refine And.intro ?_ ?_) | (intro _))
      all_goals (first | with_reducible assumption | omega | (exfalso; omega))
    | succ m ih =>
      intro q hm hq v6
      have ih := ih (q + 1) (by omega) (by omega)
      have hc : clsN g s q ≤ 60 := cnt_le _ _
      have hb : ∀ n, (mpq (clsN g s) n).2 ≤ 60 := by
        intro n
        induction n with
        | zero => exact Nat.le_of_ble_eq_true rfl
        | succ n ih => simp only [mpq]; split
                       · exact cnt_le _ _
                       · exact ih
      have hb2 := hb q
      simp only [mpq] at ih
      clear hs
      by_cases hl : (mpq (clsN g s) q).2 < clsN g s q
      · rw [if_pos hl] at ih
        (try dsimp only at ih)
        rw [show oI (some q) = nI q from rfl] at ih
        apply hR 60
        simp (maxSteps := 10000000) (disch := omega) only [hS, hn, sm_eqs, hf, ha, sm_b0, Int.reduceToNat, ↓reduceIte, Nat.reduceEqDiff, true_and, and_true, List.length_nil, List.length_cons, Nat.reduceAdd, Nat.reduceLeDiff, Nat.zero_le, false_implies, true_implies, not_true_eq_false, not_false_eq_true, implies_true, Nat.reduceSub, Nat.reduceMul, Nat.reduceDiv, reduceCtorEq, tn_clamp, nI_t, tn_nI, nI_add, pk_mul, rS_gS, rS_gA, rS_gL, rA_gS, rA_gA, rA_gL, rL_gS, rL_gA, rL_gL, and_self, and_false, false_and, if_true, if_false, true_or, or_true, or_false, false_or, sm_in, eqI, sI_s, Int32.toInt_zero, Int.natCast_zero, Int.natCast_one, Int.cast_ofNat_Int, Int.reduceEq, Int.reduceLT, Int.reduceLE, Int.reduceNeg, Int.reduceNe, ne_eq, n_up, g_up, e_cat, fr_A, fr_O, fr_P, fr_L, sp_X5_size, sp_X0_countClasses, z, hl]
        clear hn hf ha hS hR
        have ih := ih (some (.int (nI (clsN g s q))))
        repeat' (first | (refine And.intro ?_ ?_) | (intro _))
        all_goals (first | with_reducible assumption | omega | (exfalso; omega))
      · rw [if_neg hl] at ih
        apply hR 60
        simp (maxSteps := 10000000) (disch := omega) only [hS, hn, sm_eqs, hf, ha, sm_b0, Int.reduceToNat, ↓reduceIte, Nat.reduceEqDiff, true_and, and_true, List.length_nil, List.length_cons, Nat.reduceAdd, Nat.reduceLeDiff, Nat.zero_le, false_implies, true_implies, not_true_eq_false, not_false_eq_true, implies_true, Nat.reduceSub, Nat.reduceMul, Nat.reduceDiv, reduceCtorEq, tn_clamp, nI_t, tn_nI, nI_add, pk_mul, rS_gS, rS_gA, rS_gL, rA_gS, rA_gA, rA_gL, rL_gS, rL_gA, rL_gL, and_self, and_false, false_and, if_true, if_false, true_or, or_true, or_false, false_or, sm_in, eqI, sI_s, Int32.toInt_zero, Int.natCast_zero, Int.natCast_one, Int.cast_ofNat_Int, Int.reduceEq, Int.reduceLT, Int.reduceLE, Int.reduceNeg, Int.reduceNe, ne_eq, n_up, g_up, e_cat, fr_A, fr_O, fr_P, fr_L, sp_X5_size, sp_X0_countClasses, z, hl]
        clear hn hf ha hS hR
        have ih := ih (some (.int (nI (clsN g s q))))
        repeat' (first | (refine And.intro ?_ ?_) | (intro _))
        all_goals (first | with_reducible assumption | omega | (exfalso; omega))
  have h0 := loop _ 0 rfl (Nat.zero_le _) none
  apply hR 40
  simp (maxSteps := 10000000) (disch := omega) only [hS, hn, sm_eqs, hf, ha, sm_b0, Int.reduceToNat, ↓reduceIte, Nat.reduceEqDiff, true_and, and_true, List.length_nil, List.length_cons, Nat.reduceAdd, Nat.reduceLeDiff, Nat.zero_le, false_implies, true_implies, not_true_eq_false, not_false_eq_true, implies_true, Nat.reduceSub, Nat.reduceMul, Nat.reduceDiv, reduceCtorEq, tn_clamp, nI_t, tn_nI, nI_add, pk_mul, rS_gS, rS_gA, rS_gL, rA_gS, rA_gA, rA_gL, rL_gS, rL_gA, rL_gL, and_self, and_false, false_and, if_true, if_false, true_or, or_true, or_false, false_or, sm_in, eqI, sI_s, Int32.toInt_zero, Int.natCast_zero, Int.natCast_one, Int.cast_ofNat_Int, Int.reduceEq, Int.reduceLT, Int.reduceLE, Int.reduceNeg, Int.reduceNe, ne_eq, n_up, g_up, e_cat, fr_A, fr_O, fr_P, fr_L, sp_X5_size, sp_X0_countClasses]
  exact h0
theorem ok_X0_mostParting (l : Launch) : sm_spok l lay sm_mt 5 5 sp_X0_mostParting := Or.inr (Or.inr (Or.inr ⟨by decide, by decide, by
  rw [mt_5]
  exact sm_method (T := TX0_) v_cok v_lok v_ka v_tok_X0 mok_X0_mostParting rfl (by unfold sm_rk; simp) wf_X0_mostParting (List.forall_mem_cons.mpr ⟨sm_spok_up (Nat.le_of_ble_eq_true rfl : 1 ≤ 4) (ok_X5_size l), List.forall_mem_cons.mpr ⟨sm_spok_up (Nat.le_of_ble_eq_true rfl : 4 ≤ 4) (ok_X0_countClasses l), fun _ h => absurd h List.not_mem_nil⟩⟩) b_X0_mostParting⟩))
def sp_X0_isListed : sm_SP := fun as g K => match as with
  | [.ref p, .int t] => p = 46 ∧ zQ g ∧ sm_in t 60 ∧ ∃ (D : Nat) (e : Nat → Nat), D ≤ 12 ∧ rS g 46 5 = nI D ∧ (∀ j, j < D → rA g 47 j = nI (e j) ∧ e j < 60) ∧ ((∃ j, j < D ∧ alk g (e j) (tn t)) → K (some (.int (nI 1))) g) ∧ (¬ (∃ j, j < D ∧ alk g (e j) (tn t)) → K (some (.int (nI 0))) g)
  | _ => False
theorem wf_X0_isListed : sm_wf lay (yX0_isListed, cX0_isListed, 3, (some .boolean)) 2 false sp_X0_isListed := by
  intro as g K h
  simp only [sp_X0_isListed] at h
  split at h
  · exact ⟨Nat.le_of_ble_eq_true rfl, by simp, rfl, fun _ => by obtain rfl := h.1; exact ⟨46, _, 0, [3, 11, 49, 50, 51, 1], TX0, 6, rfl, rfl, rfl⟩⟩
  · exact h.elim
set_option maxHeartbeats 4000000 in
set_option maxRecDepth 100000 in
theorem b_X0_isListed : sm_body lay NX0_isListed 3 1 (sm_cl [(2, sp_X0_isAlike)]) sp_X0_isListed := by
  intro K J S hW as g hs
  have hn := n_X0_isListed
  have hf := fd_all
  have ha := ar_all
  generalize NX0_isListed = N at hn hW
  generalize lay = L at hf ha hW
  obtain ⟨hS, hR⟩ := hW
  simp only [sp_X0_isListed] at hs
  split at hs
  case h_2 => exact hs.elim
  simp only [e_args, sm_pad, List.length_cons, List.length_nil, Nat.reduceAdd, Nat.reduceSub, List.replicate_succ, List.replicate_zero, List.cons_append, List.nil_append]
  rename_i p t
  obtain ⟨rfl, z, ht, D, e, hD, eD, he, h1, h2⟩ := hs
  obtain ⟨t, ht2, rfl⟩ := sm_in_nI ht
  simp (disch := omega) only [tn_nI] at h1 h2
  have loop : ∀ m i, m = D - i → i ≤ D → (∀ j, j < i → ¬ alk g (e j) t) → J 2 [some (.ref 46), some (.int (nI t)), some (.int (nI i))] [] g := by
    intro m
    induction m with
    | zero =>
      intro i hm hi hj
      obtain rfl : i = D := by omega
      have h2 := h2 (fun ⟨j, hj1, hj2⟩ => hj j hj1 hj2)
      apply hR 60
      simp (maxSteps := 10000000) (disch := omega) only [hS, hn, sm_eqs, hf, ha, sm_b0, Int.reduceToNat, ↓reduceIte, Nat.reduceEqDiff, true_and, and_true, List.length_nil, List.length_cons, Nat.reduceAdd, Nat.reduceLeDiff, Nat.zero_le, false_implies, true_implies, not_true_eq_false, not_false_eq_true, implies_true, Nat.reduceSub, Nat.reduceMul, Nat.reduceDiv, reduceCtorEq, tn_clamp, nI_t, tn_nI, nI_add, pk_mul, rS_gS, rS_gA, rS_gL, rA_gS, rA_gA, rA_gL, rL_gS, rL_gA, rL_gL, and_self, and_false, false_and, if_true, if_false, true_or, or_true, or_false, false_or, sm_in, eqI, sI_s, Int32.toInt_zero, Int.natCast_zero, Int.natCast_one, Int.cast_ofNat_Int, Int.reduceEq, Int.reduceLT, Int.reduceLE, Int.reduceNeg, Int.reduceNe, ne_eq, n_up, g_up, e_cat, fr_A, fr_O, fr_P, fr_L, sp_X0_isAlike, eD]
      repeat' (first | (refine And.intro ?_ ?_) | (intro _))
      all_goals (first | with_reducible assumption | omega | (exfalso; omega))
    | succ m ih =>
      intro i hm hi hj
      obtain ⟨ei, el⟩ := he i (by omega)
      have ih := fun (h : ¬ alk g (e i) t) => ih (i + 1) (by omega) (by omega) (fun j hj1 => by
        by_cases ej : j = i
        · rw [ej]; exact h
        · exact hj j (by omega))
      have h1 := fun h => h1 ⟨i, by omega, h⟩
      clear h2
      apply hR 60
      simp (maxSteps := 10000000) (disch := omega) only [hS, hn, sm_eqs, hf, ha, sm_b0, Int.reduceToNat, ↓reduceIte, Nat.reduceEqDiff, true_and, and_true, List.length_nil, List.length_cons, Nat.reduceAdd, Nat.reduceLeDiff, Nat.zero_le, false_implies, true_implies, not_true_eq_false, not_false_eq_true, implies_true, Nat.reduceSub, Nat.reduceMul, Nat.reduceDiv, reduceCtorEq, tn_clamp, nI_t, tn_nI, nI_add, pk_mul, rS_gS, rS_gA, rS_gL, rA_gS, rA_gA, rA_gL, rL_gS, rL_gA, rL_gL, and_self, and_false, false_and, if_true, if_false, true_or, or_true, or_false, false_or, sm_in, eqI, sI_s, Int32.toInt_zero, Int.natCast_zero, Int.natCast_one, Int.cast_ofNat_Int, Int.reduceEq, Int.reduceLT, Int.reduceLE, Int.reduceNeg, Int.reduceNe, ne_eq, n_up, g_up, e_cat, fr_A, fr_O, fr_P, fr_L, sp_X0_isAlike, eD, ei, z]
      clear hn hf ha hS hR
      repeat' (first | (refine And.intro ?_ ?_) | (intro _))
      all_goals (first | with_reducible assumption | omega | (exfalso; omega) | exact h1 (by assumption) | exact ih (by assumption))
  apply hR 40
  simp (maxSteps := 10000000) (disch := omega) only [hS, hn, sm_eqs, hf, ha, sm_b0, Int.reduceToNat, ↓reduceIte, Nat.reduceEqDiff, true_and, and_true, List.length_nil, List.length_cons, Nat.reduceAdd, Nat.reduceLeDiff, Nat.zero_le, false_implies, true_implies, not_true_eq_false, not_false_eq_true, implies_true, Nat.reduceSub, Nat.reduceMul, Nat.reduceDiv, reduceCtorEq, tn_clamp, nI_t, tn_nI, nI_add, pk_mul, rS_gS, rS_gA, rS_gL, rA_gS, rA_gA, rA_gL, rL_gS, rL_gA, rL_gL, and_self, and_false, false_and, if_true, if_false, true_or, or_true, or_false, false_or, sm_in, eqI, sI_s, Int32.toInt_zero, Int.natCast_zero, Int.natCast_one, Int.cast_ofNat_Int, Int.reduceEq, Int.reduceLT, Int.reduceLE, Int.reduceNeg, Int.reduceNe, ne_eq, n_up, g_up, e_cat, fr_A, fr_O, fr_P, fr_L, sp_X0_isAlike]
  exact loop _ 0 rfl (Nat.zero_le _) (fun j h => by omega)
theorem ok_X0_isListed (l : Launch) : sm_spok l lay sm_mt 4 8 sp_X0_isListed := Or.inr (Or.inr (Or.inr ⟨by decide, by decide, by
  rw [mt_8]
  exact sm_method (T := TX0_) v_cok v_lok v_ka v_tok_X0 mok_X0_isListed rfl (by unfold sm_rk; simp) wf_X0_isListed (List.forall_mem_cons.mpr ⟨sm_spok_up (Nat.le_of_ble_eq_true rfl : 3 ≤ 3) (ok_X0_isAlike l), fun _ h => absurd h List.not_mem_nil⟩) b_X0_isListed⟩))
/-- one of each of the things of a set that are like one another -/
def dst (g : sm_G) (s : Int64) (D : Nat) (e : Nat → Nat) (n : Nat) : Prop :=
  (∀ j, j < D → bitL s (e j) = true ∧ e j < n) ∧ (∀ i j, i < j → j < D → ¬ alk g (e i) (e j)) ∧ (∀ t, t < n → bitL s t = true → ∃ j, j < D ∧ alk g (e j) t)
theorem dst_le {g : sm_G} {s : Int64} {D : Nat} {e : Nat → Nat} {n : Nat} (h : dst g s D e n) : D ≤ cnt (bitL s) n := by
  have inj : ∀ i j, i < D → j < D → e i = e j → i = j := fun i j hi hj ee => by
    rcases Nat.lt_trichotomy i j with h1 | h1 | h1
    · exact absurd (fun q _ => by rw [ee]) (h.2.1 i j h1 hj)
    · exact h1
    · exact absurd (fun q _ => by rw [ee]) (h.2.1 j i h1 hi)
  have : ∀ D, (∀ j, j < D → bitL s (e j) = true ∧ e j < n) → (∀ i j, i < D → j < D → e i = e j → i = j) → D ≤ cnt (fun t => bitL s t && dc (∃ j, j < D ∧ e j = t)) n := by
    intro D
    induction D with
    | zero => intro _ _; exact Nat.zero_le _
    | succ D ih =>
      intro h1 h2
      have ih := ih (fun j hj => h1 j (by omega)) (fun i j hi hj => h2 i j (by omega) (by omega))
      obtain ⟨b1, b2⟩ := h1 D (by omega)
      have := cnt_lt n (f := fun t => bitL s t && dc (∃ j, j < D ∧ e j = t)) (h := fun t => bitL s t && dc (∃ j, j < D + 1 ∧ e j = t)) (fun i hi hx => by
        rw [Bool.and_eq_true] at hx ⊢
        obtain ⟨j, hj, ej⟩ := dc_t.mp hx.2
        exact ⟨hx.1, dc_t.mpr ⟨j, by omega, ej⟩⟩) ⟨e D, b2, by
        rw [b1, Bool.true_and]
        exact dc_f.mpr (fun ⟨j, hj, ej⟩ => by have := h2 j D (by omega) (by omega) ej; omega), by
        rw [b1, Bool.true_and]
        exact dc_t.mpr ⟨D, by omega, rfl⟩⟩
      omega
  exact Nat.le_trans (this D h.1 inj) (cnt_mono n (fun i _ hx => by rw [Bool.and_eq_true] at hx; exact hx.1))
theorem cnt_up (f : Nat → Bool) {m n : Nat} (h : m ≤ n) : cnt f m ≤ cnt f n := by
  induction n with
  | zero => obtain rfl : m = 0 := by omega
            exact Nat.le_refl _
  | succ n ih =>
    by_cases e : m = n + 1
    · rw [e]; exact Nat.le_refl _
    · have := ih (by omega); simp only [cnt]; omega
theorem alk_fr (g : sm_G) (M : Nat → Int32) (v : Int32) (a b : Nat) : alk (gS (gA g 47 M) 46 5 v) a b = alk g a b := by
  obtain ⟨n1, n2, n3, n4, n5⟩ := fr_n (g := gA g 47 M) (c := 5) (v := v) oth_all.2.2.1
  have h2 := fr_S0 (g := gA g 47 M) (c := 5) (v := v) oth_all.2.2.1
  simp (disch := omega) only [alk, n1, h2, fr_A, n_up]
def sp_X0_listDistinct : sm_SP := fun as g K => match as with
  | [.ref p, .long s] => p = 46 ∧ zQ g ∧ cnt (bitL s) 60 ≤ 12 ∧ (∀ (D : Nat) (e : Nat → Nat) (M : Nat → Int32), D ≤ 12 → dst g s D e 60 → (∀ j, j < D → M j = nI (e j)) → K none (gS (gA g 47 M) 46 5 (nI D)))
  | _ => False
theorem wf_X0_listDistinct : sm_wf lay (yX0_listDistinct, cX0_listDistinct, 4, none) 2 false sp_X0_listDistinct := by
  intro as g K h
  simp only [sp_X0_listDistinct] at h
  split at h
  · exact ⟨Nat.le_of_ble_eq_true rfl, by simp, rfl, fun _ => by obtain rfl := h.1; exact ⟨46, _, 0, [3, 11, 49, 50, 51, 1], TX0, 6, rfl, rfl, rfl⟩⟩
  · exact h.elim
set_option maxHeartbeats 4000000 in
set_option maxRecDepth 100000 in
theorem b_X0_listDistinct : sm_body lay NX0_listDistinct 4 4 (sm_cl [(132, sp_X9_isIn), (8, sp_X0_isListed)]) sp_X0_listDistinct := by
  intro K J S hW as g hs
  have hn := n_X0_listDistinct
  have hf := fd_all
  have ha := ar_all
  generalize NX0_listDistinct = N at hn hW
  generalize lay = L at hf ha hW
  obtain ⟨hS, hR⟩ := hW
  simp only [sp_X0_listDistinct] at hs
  split at hs
  case h_2 => exact hs.elim
  simp only [e_args, sm_pad, List.length_cons, List.length_nil, Nat.reduceAdd, Nat.reduceSub, List.replicate_succ, List.replicate_zero, List.cons_append, List.nil_append]
  rename_i p s
  obtain ⟨rfl, z, hc, hs⟩ := hs
  have loop : ∀ m t, m = 60 - t → t ≤ 60 → ∀ (D : Nat) (e : Nat → Nat) (M : Nat → Int32), D ≤ cnt (bitL s) t → dst g s D e t → (∀ j, j < D → M j = nI (e j)) → J 7 [some (.ref 46), some (.long s), none, some (.int (nI t))] [] (gS (gA g 47 M) 46 5 (nI D)) := by
    intro m
    induction m with
    | zero =>
      intro t hm ht D e M hD hd hM
      obtain rfl : t = 60 := by omega
      have hs := hs D e M (by omega) hd hM
      apply hR 60
      simp (maxSteps := 10000000) (disch := omega) only [hS, hn, sm_eqs, hf, ha, sm_b0, Int.reduceToNat, ↓reduceIte, Nat.reduceEqDiff, true_and, and_true, List.length_nil, List.length_cons, Nat.reduceAdd, Nat.reduceLeDiff, Nat.zero_le, false_implies, true_implies, not_true_eq_false, not_false_eq_true, implies_true, Nat.reduceSub, Nat.reduceMul, Nat.reduceDiv, reduceCtorEq, tn_clamp, nI_t, tn_nI, nI_add, pk_mul, rS_gS, rS_gA, rS_gL, rA_gS, rA_gA, rA_gL, rL_gS, rL_gA, rL_gL, and_self, and_false, false_and, if_true, if_false, true_or, or_true, or_false, false_or, sm_in, eqI, sI_s, Int32.toInt_zero, Int.natCast_zero, Int.natCast_one, Int.cast_ofNat_Int, Int.reduceEq, Int.reduceLT, Int.reduceLE, Int.reduceNeg, Int.reduceNe, ne_eq, n_up, g_up, e_cat, fr_A, fr_O, fr_P, fr_L, sp_X9_isIn, sp_X0_isListed]
      repeat' (first | (refine And.intro ?_ ?_) | (intro _))
      all_goals (first | with_reducible assumption | omega | (exfalso; omega))
    | succ m ih =>
      intro t hm ht D e M hD hd hM
      have hmono : cnt (bitL s) (t + 1) ≤ cnt (bitL s) 60 := cnt_up _ (by omega)
      clear hs
      cases hb : bitL s t with
      | false =>
        have ih := ih (t + 1) (by omega) (by omega) D e M (by simp only [cnt]; omega) ⟨fun j hj => ⟨(hd.1 j hj).1, by have := (hd.1 j hj).2; omega⟩, hd.2.1, fun u hu hbu => by
          by_cases eu : u = t
          · rw [eu, hb] at hbu; cases hbu
          · exact hd.2.2 u (by omega) hbu⟩ hM
        apply hR 60
        simp (maxSteps := 10000000) (disch := omega) only [hS, hn, sm_eqs, hf, ha, sm_b0, Int.reduceToNat, ↓reduceIte, Nat.reduceEqDiff, true_and, and_true, List.length_nil, List.length_cons, Nat.reduceAdd, Nat.reduceLeDiff, Nat.zero_le, false_implies, true_implies, not_true_eq_false, not_false_eq_true, implies_true, Nat.reduceSub, Nat.reduceMul, Nat.reduceDiv, reduceCtorEq, tn_clamp, nI_t, tn_nI, nI_add, pk_mul, rS_gS, rS_gA, rS_gL, rA_gS, rA_gA, rA_gL, rL_gS, rL_gA, rL_gL, and_self, and_false, false_and, if_true, if_false, true_or, or_true, or_false, false_or, sm_in, eqI, sI_s, Int32.toInt_zero, Int.natCast_zero, Int.natCast_one, Int.cast_ofNat_Int, Int.reduceEq, Int.reduceLT, Int.reduceLE, Int.reduceNeg, Int.reduceNe, ne_eq, n_up, g_up, e_cat, fr_A, fr_O, fr_P, fr_L, sp_X9_isIn, sp_X0_isListed, hb]
        clear hn hf ha hS hR
        repeat' (first | (refine And.intro ?_ ?_) | (intro _))
        all_goals (first | with_reducible assumption | omega | (exfalso; omega))
      | true =>
        have hc1 : cnt (bitL s) (t + 1) = cnt (bitL s) t + 1 := by
          show _ + (if bitL s t = true then 1 else 0) = _
          rw [if_pos hb]
        rw [hc1] at hmono
        have hD12 : D < 12 := by omega
        have eA : (∃ j, j < D ∧ alk g (e j) t) → J 7 [some (.ref 46), some (.long s), none, some (.int (nI (t + 1)))] [] (gS (gA g 47 M) 46 5 (nI D)) := fun hx => ih (t + 1) (by omega) (by omega) D e M (by omega) ⟨fun j hj => ⟨(hd.1 j hj).1, by have := (hd.1 j hj).2; omega⟩, hd.2.1, fun u hu hbu => by
          by_cases eu : u = t
          · rw [eu]; exact hx
          · exact hd.2.2 u (by omega) hbu⟩ hM
        have eB : (¬ ∃ j, j < D ∧ alk g (e j) t) → J 7 [some (.ref 46), some (.long s), none, some (.int (nI (t + 1)))] [] (gS (gA g 47 (upd M D (nI t))) 46 5 (nI (D + 1))) := fun hx => ih (t + 1) (by omega) (by omega) (D + 1) (fun j => if j = D then t else e j) _ (by omega) ⟨fun j hj => by
            (try dsimp only)
            by_cases ej : j = D
            · rw [if_pos ej]; exact ⟨hb, by omega⟩
            · rw [if_neg ej]; exact ⟨(hd.1 j (by omega)).1, by have := (hd.1 j (by omega)).2; omega⟩, fun i j hij hj => by
            (try dsimp only)
            by_cases ej : j = D
            · rw [if_pos ej, if_neg (by omega)]; exact fun h => hx ⟨i, by omega, h⟩
            · rw [if_neg ej, if_neg (by omega)]; exact hd.2.1 i j hij (by omega), fun u hu hbu => by
            by_cases eu : u = t
            · exact ⟨D, by omega, by (try dsimp only); rw [if_pos rfl, eu]; exact fun _ _ => rfl⟩
            · obtain ⟨j, hj, hk⟩ := hd.2.2 u (by omega) hbu
              exact ⟨j, by omega, by (try dsimp only); rw [if_neg (by omega)]; exact hk⟩⟩ (fun j hj => by
            (try dsimp only)
            by_cases ej : j = D
            · rw [if_pos ej, ej, pk_us]
            · rw [if_neg ej, pk_un ej]; exact hM j (by omega))
        clear ih
        apply hR 60
        simp (maxSteps := 10000000) (disch := omega) only [hS, hn, sm_eqs, hf, ha, sm_b0, Int.reduceToNat, ↓reduceIte, Nat.reduceEqDiff, true_and, and_true, List.length_nil, List.length_cons, Nat.reduceAdd, Nat.reduceLeDiff, Nat.zero_le, false_implies, true_implies, not_true_eq_false, not_false_eq_true, implies_true, Nat.reduceSub, Nat.reduceMul, Nat.reduceDiv, reduceCtorEq, tn_clamp, nI_t, tn_nI, nI_add, pk_mul, rS_gS, rS_gA, rS_gL, rA_gS, rA_gA, rA_gL, rL_gS, rL_gA, rL_gL, and_self, and_false, false_and, if_true, if_false, true_or, or_true, or_false, false_or, sm_in, eqI, sI_s, Int32.toInt_zero, Int.natCast_zero, Int.natCast_one, Int.cast_ofNat_Int, Int.reduceEq, Int.reduceLT, Int.reduceLE, Int.reduceNeg, Int.reduceNe, ne_eq, n_up, g_up, e_cat, fr_A, fr_O, fr_P, fr_L, sp_X9_isIn, sp_X0_isListed, hb, z, fr_S0 oth_all.2.2.1, alk_fr]
        clear hn hf ha hS hR
        refine ⟨fun _ => ⟨by omega, fun _ => ⟨by omega, D, e, by omega, (nI_t (by omega)).symm, fun j hj => ⟨by rw [hM j hj], by have := (hd.1 j hj).2; omega⟩, eA, fun hx => ⟨by omega, eB hx⟩⟩, fun h => absurd h (by omega)⟩, fun h => absurd h (by omega)⟩
  have h0 := loop _ 0 rfl (Nat.zero_le _) 0 (fun _ => 0) (rA g 47) (Nat.zero_le _) ⟨fun j h => by omega, fun i j _ h => by omega, fun t h => by omega⟩ (fun j h => by omega)
  rw [gA_self] at h0
  clear hs loop
  apply hR 40
  simp (maxSteps := 10000000) (disch := omega) only [hS, hn, sm_eqs, hf, ha, sm_b0, Int.reduceToNat, ↓reduceIte, Nat.reduceEqDiff, true_and, and_true, List.length_nil, List.length_cons, Nat.reduceAdd, Nat.reduceLeDiff, Nat.zero_le, false_implies, true_implies, not_true_eq_false, not_false_eq_true, implies_true, Nat.reduceSub, Nat.reduceMul, Nat.reduceDiv, reduceCtorEq, tn_clamp, nI_t, tn_nI, nI_add, pk_mul, rS_gS, rS_gA, rS_gL, rA_gS, rA_gA, rA_gL, rL_gS, rL_gA, rL_gL, and_self, and_false, false_and, if_true, if_false, true_or, or_true, or_false, false_or, sm_in, eqI, sI_s, Int32.toInt_zero, Int.natCast_zero, Int.natCast_one, Int.cast_ofNat_Int, Int.reduceEq, Int.reduceLT, Int.reduceLE, Int.reduceNeg, Int.reduceNe, ne_eq, n_up, g_up, e_cat, fr_A, fr_O, fr_P, fr_L, sp_X9_isIn, sp_X0_isListed]
  exact h0
theorem ok_X0_listDistinct (l : Launch) : sm_spok l lay sm_mt 5 7 sp_X0_listDistinct := Or.inr (Or.inr (Or.inr ⟨by decide, by decide, by
  rw [mt_7]
  exact sm_method (T := TX0_) v_cok v_lok v_ka v_tok_X0 mok_X0_listDistinct rfl (by unfold sm_rk; simp) wf_X0_listDistinct (List.forall_mem_cons.mpr ⟨sm_spok_up (Nat.le_of_ble_eq_true rfl : 1 ≤ 4) (ok_X9_isIn l), List.forall_mem_cons.mpr ⟨sm_spok_up (Nat.le_of_ble_eq_true rfl : 4 ≤ 4) (ok_X0_isListed l), fun _ h => absurd h List.not_mem_nil⟩⟩) b_X0_listDistinct⟩))
