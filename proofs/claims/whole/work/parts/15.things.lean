/-! Things. -/
def sp_X8_size : sm_SP := fun as g K => match as with
  | [.ref p] => p = 15 ∧ zT g ∧ K (some (.int (nI (nT g)))) g
  | _ => False
theorem wf_X8_size : sm_wf lay (yX8_size, cX8_size, 1, (some .int)) 1 false sp_X8_size := by
  intro as g K h
  simp only [sp_X8_size] at h
  split at h
  · exact ⟨Nat.le_of_ble_eq_true rfl, by simp, rfl, fun _ => by obtain rfl := h.1; exact ⟨15, _, 8, [18, 19, 20, 21, 22, 23, 24, 25, 26, 1, 1], TX8, 11, rfl, rfl, rfl⟩⟩
  · exact h.elim
set_option maxHeartbeats 4000000 in
set_option maxRecDepth 100000 in
theorem b_X8_size : sm_body lay NX8_size 1 0 (sm_cl []) sp_X8_size := by
  intro K J S hW as g hs
  have hn := n_X8_size
  have hf := fd_all
  have ha := ar_all
  generalize NX8_size = N at hn hW
  generalize lay = L at hf ha hW
  obtain ⟨hS, hR⟩ := hW
  simp only [sp_X8_size] at hs
  split at hs
  case h_2 => exact hs.elim
  simp only [e_args, sm_pad, List.length_cons, List.length_nil, Nat.reduceAdd, Nat.reduceSub, List.replicate_succ, List.replicate_zero, List.cons_append, List.nil_append]
  rename_i p
  obtain ⟨rfl, z, hs⟩ := hs
  apply hR 20
  simp (maxSteps := 10000000) (disch := omega) only [hS, hn, sm_eqs, hf, ha, sm_b0, Int.reduceToNat, ↓reduceIte, Nat.reduceEqDiff, true_and, and_true, List.length_nil, List.length_cons, Nat.reduceAdd, Nat.reduceLeDiff, Nat.zero_le, false_implies, true_implies, not_true_eq_false, not_false_eq_true, implies_true, Nat.reduceSub, Nat.reduceMul, Nat.reduceDiv, reduceCtorEq, tn_clamp, nI_t, tn_nI, nI_add, pk_mul, rS_gS, rS_gA, rS_gL, rA_gS, rA_gA, rA_gL, rL_gS, rL_gA, rL_gL, and_self, and_false, false_and, if_true, if_false, true_or, or_true, or_false, false_or, sm_in, eqI, sI_s, Int32.toInt_zero, Int.natCast_zero, Int.natCast_one, Int.cast_ofNat_Int, Int.reduceEq, Int.reduceLT, Int.reduceLE, Int.reduceNeg, Int.reduceNe, ne_eq, n_up, g_up, e_cat, z.1]
  exact hs
theorem ok_X8_size (l : Launch) : sm_spok l lay sm_mt 1 90 sp_X8_size := Or.inr (Or.inr (Or.inr ⟨by decide, by decide, by
  rw [mt_90]
  exact sm_method (T := TX8_) v_cok v_lok v_ka v_tok_X8 mok_X8_size rfl (by unfold sm_rk; simp) wf_X8_size (fun _ h => absurd h List.not_mem_nil) b_X8_size⟩))
def sp_X8_goneCount : sm_SP := fun as g K => match as with
  | [.ref p] => p = 15 ∧ zO g ∧ K (some (.int (nI (nO g)))) g
  | _ => False
theorem wf_X8_goneCount : sm_wf lay (yX8_goneCount, cX8_goneCount, 1, (some .int)) 1 false sp_X8_goneCount := by
  intro as g K h
  simp only [sp_X8_goneCount] at h
  split at h
  · exact ⟨Nat.le_of_ble_eq_true rfl, by simp, rfl, fun _ => by obtain rfl := h.1; exact ⟨15, _, 8, [18, 19, 20, 21, 22, 23, 24, 25, 26, 1, 1], TX8, 11, rfl, rfl, rfl⟩⟩
  · exact h.elim
set_option maxHeartbeats 4000000 in
set_option maxRecDepth 100000 in
theorem b_X8_goneCount : sm_body lay NX8_goneCount 1 0 (sm_cl []) sp_X8_goneCount := by
  intro K J S hW as g hs
  have hn := n_X8_goneCount
  have hf := fd_all
  have ha := ar_all
  generalize NX8_goneCount = N at hn hW
  generalize lay = L at hf ha hW
  obtain ⟨hS, hR⟩ := hW
  simp only [sp_X8_goneCount] at hs
  split at hs
  case h_2 => exact hs.elim
  simp only [e_args, sm_pad, List.length_cons, List.length_nil, Nat.reduceAdd, Nat.reduceSub, List.replicate_succ, List.replicate_zero, List.cons_append, List.nil_append]
  rename_i p
  obtain ⟨rfl, z, hs⟩ := hs
  apply hR 20
  simp (maxSteps := 10000000) (disch := omega) only [hS, hn, sm_eqs, hf, ha, sm_b0, Int.reduceToNat, ↓reduceIte, Nat.reduceEqDiff, true_and, and_true, List.length_nil, List.length_cons, Nat.reduceAdd, Nat.reduceLeDiff, Nat.zero_le, false_implies, true_implies, not_true_eq_false, not_false_eq_true, implies_true, Nat.reduceSub, Nat.reduceMul, Nat.reduceDiv, reduceCtorEq, tn_clamp, nI_t, tn_nI, nI_add, pk_mul, rS_gS, rS_gA, rS_gL, rA_gS, rA_gA, rA_gL, rL_gS, rL_gA, rL_gL, and_self, and_false, false_and, if_true, if_false, true_or, or_true, or_false, false_or, sm_in, eqI, sI_s, Int32.toInt_zero, Int.natCast_zero, Int.natCast_one, Int.cast_ofNat_Int, Int.reduceEq, Int.reduceLT, Int.reduceLE, Int.reduceNeg, Int.reduceNe, ne_eq, n_up, g_up, e_cat, z.1]
  exact hs
theorem ok_X8_goneCount (l : Launch) : sm_spok l lay sm_mt 1 110 sp_X8_goneCount := Or.inr (Or.inr (Or.inr ⟨by decide, by decide, by
  rw [mt_110]
  exact sm_method (T := TX8_) v_cok v_lok v_ka v_tok_X8 mok_X8_goneCount rfl (by unfold sm_rk; simp) wf_X8_goneCount (fun _ h => absurd h List.not_mem_nil) b_X8_goneCount⟩))
def sp_X8_has : sm_SP := fun as g K => match as with
  | [.ref p, .int t] => p = 15 ∧ zT g ∧ (okT g t → K (some (.int (nI 1))) g) ∧ (¬ okT g t → K (some (.int (nI 0))) g)
  | _ => False
theorem wf_X8_has : sm_wf lay (yX8_has, cX8_has, 2, (some .boolean)) 2 false sp_X8_has := by
  intro as g K h
  simp only [sp_X8_has] at h
  split at h
  · exact ⟨Nat.le_of_ble_eq_true rfl, by simp, rfl, fun _ => by obtain rfl := h.1; exact ⟨15, _, 8, [18, 19, 20, 21, 22, 23, 24, 25, 26, 1, 1], TX8, 11, rfl, rfl, rfl⟩⟩
  · exact h.elim
set_option maxHeartbeats 4000000 in
set_option maxRecDepth 100000 in
theorem b_X8_has : sm_body lay NX8_has 2 1 (sm_cl []) sp_X8_has := by
  intro K J S hW as g hs
  have hn := n_X8_has
  have hf := fd_all
  have ha := ar_all
  generalize NX8_has = N at hn hW
  generalize lay = L at hf ha hW
  obtain ⟨hS, hR⟩ := hW
  simp only [sp_X8_has] at hs
  split at hs
  case h_2 => exact hs.elim
  simp only [e_args, sm_pad, List.length_cons, List.length_nil, Nat.reduceAdd, Nat.reduceSub, List.replicate_succ, List.replicate_zero, List.cons_append, List.nil_append]
  rename_i p r
  obtain ⟨rfl, z, h1, h2⟩ := hs
  have z2 := z.2
  simp only [okT] at h1 h2
  apply hR 20
  simp (maxSteps := 10000000) (disch := omega) only [hS, hn, sm_eqs, hf, ha, sm_b0, Int.reduceToNat, ↓reduceIte, Nat.reduceEqDiff, true_and, and_true, List.length_nil, List.length_cons, Nat.reduceAdd, Nat.reduceLeDiff, Nat.zero_le, false_implies, true_implies, not_true_eq_false, not_false_eq_true, implies_true, Nat.reduceSub, Nat.reduceMul, Nat.reduceDiv, reduceCtorEq, tn_clamp, nI_t, tn_nI, nI_add, pk_mul, rS_gS, rS_gA, rS_gL, rA_gS, rA_gA, rA_gL, rL_gS, rL_gA, rL_gL, and_self, and_false, false_and, if_true, if_false, true_or, or_true, or_false, false_or, sm_in, eqI, sI_s, Int32.toInt_zero, Int.natCast_zero, Int.natCast_one, Int.cast_ofNat_Int, Int.reduceEq, Int.reduceLT, Int.reduceLE, Int.reduceNeg, Int.reduceNe, ne_eq, n_up, g_up, e_cat, z.1]
  clear hn hf ha hS hR
  grind
theorem ok_X8_has (l : Launch) : sm_spok l lay sm_mt 1 91 sp_X8_has := Or.inr (Or.inr (Or.inr ⟨by decide, by decide, by
  rw [mt_91]
  exact sm_method (T := TX8_) v_cok v_lok v_ka v_tok_X8 mok_X8_has rfl (by unfold sm_rk; simp) wf_X8_has (fun _ h => absurd h List.not_mem_nil) b_X8_has⟩))
/-- a thing that is there and not out -/
def hereC (g : sm_G) (t : Int32) : Prop := okT g t ∧ (rA g 23 (tn t)).toInt = -1
def sp_X8_isHere : sm_SP := fun as g K => match as with
  | [.ref p, .int t] => p = 15 ∧ zT g ∧ (hereC g t → K (some (.int (nI 1))) g) ∧ (¬ hereC g t → K (some (.int (nI 0))) g)
  | _ => False
theorem wf_X8_isHere : sm_wf lay (yX8_isHere, cX8_isHere, 2, (some .boolean)) 2 false sp_X8_isHere := by
  intro as g K h
  simp only [sp_X8_isHere] at h
  split at h
  · exact ⟨Nat.le_of_ble_eq_true rfl, by simp, rfl, fun _ => by obtain rfl := h.1; exact ⟨15, _, 8, [18, 19, 20, 21, 22, 23, 24, 25, 26, 1, 1], TX8, 11, rfl, rfl, rfl⟩⟩
  · exact h.elim
set_option maxHeartbeats 4000000 in
set_option maxRecDepth 100000 in
theorem b_X8_isHere : sm_body lay NX8_isHere 2 1 (sm_cl []) sp_X8_isHere := by
  intro K J S hW as g hs
  have hn := n_X8_isHere
  have hf := fd_all
  have ha := ar_all
  generalize NX8_isHere = N at hn hW
  generalize lay = L at hf ha hW
  obtain ⟨hS, hR⟩ := hW
  simp only [sp_X8_isHere] at hs
  split at hs
  case h_2 => exact hs.elim
  simp only [e_args, sm_pad, List.length_cons, List.length_nil, Nat.reduceAdd, Nat.reduceSub, List.replicate_succ, List.replicate_zero, List.cons_append, List.nil_append]
  rename_i p r
  obtain ⟨rfl, z, h1, h2⟩ := hs
  have z2 := z.2
  simp only [hereC, okT] at h1 h2
  apply hR 40
  simp (maxSteps := 10000000) (disch := omega) only [hS, hn, sm_eqs, hf, ha, sm_b0, Int.reduceToNat, ↓reduceIte, Nat.reduceEqDiff, true_and, and_true, List.length_nil, List.length_cons, Nat.reduceAdd, Nat.reduceLeDiff, Nat.zero_le, false_implies, true_implies, not_true_eq_false, not_false_eq_true, implies_true, Nat.reduceSub, Nat.reduceMul, Nat.reduceDiv, reduceCtorEq, tn_clamp, nI_t, tn_nI, nI_add, pk_mul, rS_gS, rS_gA, rS_gL, rA_gS, rA_gA, rA_gL, rL_gS, rL_gA, rL_gL, and_self, and_false, false_and, if_true, if_false, true_or, or_true, or_false, false_or, sm_in, eqI, sI_s, Int32.toInt_zero, Int.natCast_zero, Int.natCast_one, Int.cast_ofNat_Int, Int.reduceEq, Int.reduceLT, Int.reduceLE, Int.reduceNeg, Int.reduceNe, ne_eq, n_up, g_up, e_cat, z.1]
  clear hn hf ha hS hR
  grind
theorem ok_X8_isHere (l : Launch) : sm_spok l lay sm_mt 1 92 sp_X8_isHere := Or.inr (Or.inr (Or.inr ⟨by decide, by decide, by
  rw [mt_92]
  exact sm_method (T := TX8_) v_cok v_lok v_ka v_tok_X8 mok_X8_isHere rfl (by unfold sm_rk; simp) wf_X8_isHere (fun _ h => absurd h List.not_mem_nil) b_X8_isHere⟩))
def sp_X8_isBagHere : sm_SP := fun as g K => match as with
  | [.ref p, .int t] => p = 15 ∧ zT g ∧ (hereC g t ∧ (rA g 16 (tn t)).toInt = 1 → K (some (.int (nI 1))) g) ∧ (¬ (hereC g t ∧ (rA g 16 (tn t)).toInt = 1) → K (some (.int (nI 0))) g)
  | _ => False
theorem wf_X8_isBagHere : sm_wf lay (yX8_isBagHere, cX8_isBagHere, 2, (some .boolean)) 2 false sp_X8_isBagHere := by
  intro as g K h
  simp only [sp_X8_isBagHere] at h
  split at h
  · exact ⟨Nat.le_of_ble_eq_true rfl, by simp, rfl, fun _ => by obtain rfl := h.1; exact ⟨15, _, 8, [18, 19, 20, 21, 22, 23, 24, 25, 26, 1, 1], TX8, 11, rfl, rfl, rfl⟩⟩
  · exact h.elim
set_option maxHeartbeats 4000000 in
set_option maxRecDepth 100000 in
theorem b_X8_isBagHere : sm_body lay NX8_isBagHere 2 1 (sm_cl [(92, sp_X8_isHere)]) sp_X8_isBagHere := by
  intro K J S hW as g hs
  have hn := n_X8_isBagHere
  have hf := fd_all
  have ha := ar_all
  generalize NX8_isBagHere = N at hn hW
  generalize lay = L at hf ha hW
  obtain ⟨hS, hR⟩ := hW
  simp only [sp_X8_isBagHere] at hs
  split at hs
  case h_2 => exact hs.elim
  simp only [e_args, sm_pad, List.length_cons, List.length_nil, Nat.reduceAdd, Nat.reduceSub, List.replicate_succ, List.replicate_zero, List.cons_append, List.nil_append]
  rename_i p r
  obtain ⟨rfl, z, h1, h2⟩ := hs
  have z2 := z.2
  by_cases hh : hereC g r
  · have hr := hh.1
    simp only [okT] at hr
    simp only [hh, true_and] at h1 h2
    apply hR 40
    simp (maxSteps := 10000000) (disch := omega) only [hS, hn, sm_eqs, hf, ha, sm_b0, Int.reduceToNat, ↓reduceIte, Nat.reduceEqDiff, true_and, and_true, List.length_nil, List.length_cons, Nat.reduceAdd, Nat.reduceLeDiff, Nat.zero_le, false_implies, true_implies, not_true_eq_false, not_false_eq_true, implies_true, Nat.reduceSub, Nat.reduceMul, Nat.reduceDiv, reduceCtorEq, tn_clamp, nI_t, tn_nI, nI_add, pk_mul, rS_gS, rS_gA, rS_gL, rA_gS, rA_gA, rA_gL, rL_gS, rL_gA, rL_gL, and_self, and_false, false_and, if_true, if_false, true_or, or_true, or_false, false_or, sm_in, eqI, sI_s, Int32.toInt_zero, Int.natCast_zero, Int.natCast_one, Int.cast_ofNat_Int, Int.reduceEq, Int.reduceLT, Int.reduceLE, Int.reduceNeg, Int.reduceNe, ne_eq, n_up, g_up, e_cat, sp_X8_isHere, z, hh]
    clear hn hf ha hS hR
    grind
  · apply hR 40
    simp (maxSteps := 10000000) (disch := omega) only [hS, hn, sm_eqs, hf, ha, sm_b0, Int.reduceToNat, ↓reduceIte, Nat.reduceEqDiff, true_and, and_true, List.length_nil, List.length_cons, Nat.reduceAdd, Nat.reduceLeDiff, Nat.zero_le, false_implies, true_implies, not_true_eq_false, not_false_eq_true, implies_true, Nat.reduceSub, Nat.reduceMul, Nat.reduceDiv, reduceCtorEq, tn_clamp, nI_t, tn_nI, nI_add, pk_mul, rS_gS, rS_gA, rS_gL, rA_gS, rA_gA, rA_gL, rL_gS, rL_gA, rL_gL, and_self, and_false, false_and, if_true, if_false, true_or, or_true, or_false, false_or, sm_in, eqI, sI_s, Int32.toInt_zero, Int.natCast_zero, Int.natCast_one, Int.cast_ofNat_Int, Int.reduceEq, Int.reduceLT, Int.reduceLE, Int.reduceNeg, Int.reduceNe, ne_eq, n_up, g_up, e_cat, sp_X8_isHere, z, hh]
    exact h2 (fun h => hh h.1)
theorem ok_X8_isBagHere (l : Launch) : sm_spok l lay sm_mt 2 93 sp_X8_isBagHere := Or.inr (Or.inr (Or.inr ⟨by decide, by decide, by
  rw [mt_93]
  exact sm_method (T := TX8_) v_cok v_lok v_ka v_tok_X8 mok_X8_isBagHere rfl (by unfold sm_rk; simp) wf_X8_isBagHere (List.forall_mem_cons.mpr ⟨sm_spok_up (Nat.le_of_ble_eq_true rfl : 1 ≤ 1) (ok_X8_isHere l), fun _ h => absurd h List.not_mem_nil⟩) b_X8_isBagHere⟩))
def sp_X8_add : sm_SP := fun as g K => match as with
  | [.ref p, .int k, .int f, .int w, .int b] => p = 15 ∧ zT g ∧ sm_zr 1 w ∧ (nT g < 60 → K (some (.int (nI (nT g)))) (gS (gA (gA (gA (gA (gA (gA (gA (gA g 16 (upd (rA g 16) (nT g) k)) 17 (upd (rA g 17) (nT g) f)) 18 (upd (rA g 18) (nT g) w)) 19 (upd (rA g 19) (nT g) b)) 20 (upd (rA g 20) (nT g) (nI 0))) 21 (upd (rA g 21) (nT g) (sI 0))) 22 (upd (rA g 22) (nT g) (sI 0))) 23 (upd (rA g 23) (nT g) (sI 0))) 15 809 (nI (nT g + 1)))) ∧ (¬ nT g < 60 → K (some (.int (sI 0))) g)
  | _ => False
theorem wf_X8_add : sm_wf lay (yX8_add, cX8_add, 6, (some .int)) 5 false sp_X8_add := by
  intro as g K h
  simp only [sp_X8_add] at h
  split at h
  · exact ⟨Nat.le_of_ble_eq_true rfl, by simp, rfl, fun _ => by obtain rfl := h.1; exact ⟨15, _, 8, [18, 19, 20, 21, 22, 23, 24, 25, 26, 1, 1], TX8, 11, rfl, rfl, rfl⟩⟩
  · exact h.elim
set_option maxHeartbeats 4000000 in
set_option maxRecDepth 100000 in
theorem b_X8_add : sm_body lay NX8_add 6 0 (sm_cl []) sp_X8_add := by
  intro K J S hW as g hs
  have hn := n_X8_add
  have hf := fd_all
  have ha := ar_all
  generalize NX8_add = N at hn hW
  generalize lay = L at hf ha hW
  obtain ⟨hS, hR⟩ := hW
  simp only [sp_X8_add] at hs
  split at hs
  case h_2 => exact hs.elim
  simp only [e_args, sm_pad, List.length_cons, List.length_nil, Nat.reduceAdd, Nat.reduceSub, List.replicate_succ, List.replicate_zero, List.cons_append, List.nil_append]
  rename_i p k f w b
  obtain ⟨rfl, z, hz, h1, h2⟩ := hs
  have z2 := z.2
  apply hR 100
  simp (maxSteps := 10000000) (disch := omega) only [hS, hn, sm_eqs, hf, ha, sm_b0, Int.reduceToNat, ↓reduceIte, Nat.reduceEqDiff, true_and, and_true, List.length_nil, List.length_cons, Nat.reduceAdd, Nat.reduceLeDiff, Nat.zero_le, false_implies, true_implies, not_true_eq_false, not_false_eq_true, implies_true, Nat.reduceSub, Nat.reduceMul, Nat.reduceDiv, reduceCtorEq, tn_clamp, nI_t, tn_nI, nI_add, pk_mul, rS_gS, rS_gA, rS_gL, rA_gS, rA_gA, rA_gL, rL_gS, rL_gA, rL_gL, and_self, and_false, false_and, if_true, if_false, true_or, or_true, or_false, false_or, sm_in, eqI, sI_s, Int32.toInt_zero, Int.natCast_zero, Int.natCast_one, Int.cast_ofNat_Int, Int.reduceEq, Int.reduceLT, Int.reduceLE, Int.reduceNeg, Int.reduceNe, ne_eq, n_up, g_up, e_cat, z.1, hz]
  clear hn hf ha hS hR
  grind
theorem ok_X8_add (l : Launch) : sm_spok l lay sm_mt 1 94 sp_X8_add := Or.inr (Or.inr (Or.inr ⟨by decide, by decide, by
  rw [mt_94]
  exact sm_method (T := TX8_) v_cok v_lok v_ka v_tok_X8 mok_X8_add rfl (by unfold sm_rk; simp) wf_X8_add (fun _ h => absurd h List.not_mem_nil) b_X8_add⟩))
def sp_X8_whereOf : sm_SP := fun as g K => match as with
  | [.ref p, .int t] => p = 15 ∧ zT g ∧ (¬ hereC g t → K (some (.int (nI 2))) g) ∧ (hereC g t → (rA g 19 (tn t)).toInt = -1 → K (some (.int (nI 0))) g) ∧ (hereC g t → (rA g 19 (tn t)).toInt ≠ -1 → K (some (.int (nI 1))) g)
  | _ => False
theorem wf_X8_whereOf : sm_wf lay (yX8_whereOf, cX8_whereOf, 2, (some .int)) 2 false sp_X8_whereOf := by
  intro as g K h
  simp only [sp_X8_whereOf] at h
  split at h
  · exact ⟨Nat.le_of_ble_eq_true rfl, by simp, rfl, fun _ => by obtain rfl := h.1; exact ⟨15, _, 8, [18, 19, 20, 21, 22, 23, 24, 25, 26, 1, 1], TX8, 11, rfl, rfl, rfl⟩⟩
  · exact h.elim
set_option maxHeartbeats 4000000 in
set_option maxRecDepth 100000 in
theorem b_X8_whereOf : sm_body lay NX8_whereOf 2 0 (sm_cl [(92, sp_X8_isHere)]) sp_X8_whereOf := by
  intro K J S hW as g hs
  have hn := n_X8_whereOf
  have hf := fd_all
  have ha := ar_all
  generalize NX8_whereOf = N at hn hW
  generalize lay = L at hf ha hW
  obtain ⟨hS, hR⟩ := hW
  simp only [sp_X8_whereOf] at hs
  split at hs
  case h_2 => exact hs.elim
  simp only [e_args, sm_pad, List.length_cons, List.length_nil, Nat.reduceAdd, Nat.reduceSub, List.replicate_succ, List.replicate_zero, List.cons_append, List.nil_append]
  rename_i p r
  obtain ⟨rfl, z, h1, h2, h3⟩ := hs
  have z2 := z.2
  by_cases hh : hereC g r
  · have hr := hh.1
    simp only [okT] at hr
    apply hR 40
    simp (maxSteps := 10000000) (disch := omega) only [hS, hn, sm_eqs, hf, ha, sm_b0, Int.reduceToNat, ↓reduceIte, Nat.reduceEqDiff, true_and, and_true, List.length_nil, List.length_cons, Nat.reduceAdd, Nat.reduceLeDiff, Nat.zero_le, false_implies, true_implies, not_true_eq_false, not_false_eq_true, implies_true, Nat.reduceSub, Nat.reduceMul, Nat.reduceDiv, reduceCtorEq, tn_clamp, nI_t, tn_nI, nI_add, pk_mul, rS_gS, rS_gA, rS_gL, rA_gS, rA_gA, rA_gL, rL_gS, rL_gA, rL_gL, and_self, and_false, false_and, if_true, if_false, true_or, or_true, or_false, false_or, sm_in, eqI, sI_s, Int32.toInt_zero, Int.natCast_zero, Int.natCast_one, Int.cast_ofNat_Int, Int.reduceEq, Int.reduceLT, Int.reduceLE, Int.reduceNeg, Int.reduceNe, ne_eq, n_up, g_up, e_cat, sp_X8_isHere, z, hh]
    clear hn hf ha hS hR
    grind
  · apply hR 40
    simp (maxSteps := 10000000) (disch := omega) only [hS, hn, sm_eqs, hf, ha, sm_b0, Int.reduceToNat, ↓reduceIte, Nat.reduceEqDiff, true_and, and_true, List.length_nil, List.length_cons, Nat.reduceAdd, Nat.reduceLeDiff, Nat.zero_le, false_implies, true_implies, not_true_eq_false, not_false_eq_true, implies_true, Nat.reduceSub, Nat.reduceMul, Nat.reduceDiv, reduceCtorEq, tn_clamp, nI_t, tn_nI, nI_add, pk_mul, rS_gS, rS_gA, rS_gL, rA_gS, rA_gA, rA_gL, rL_gS, rL_gA, rL_gL, and_self, and_false, false_and, if_true, if_false, true_or, or_true, or_false, false_or, sm_in, eqI, sI_s, Int32.toInt_zero, Int.natCast_zero, Int.natCast_one, Int.cast_ofNat_Int, Int.reduceEq, Int.reduceLT, Int.reduceLE, Int.reduceNeg, Int.reduceNe, ne_eq, n_up, g_up, e_cat, sp_X8_isHere, z, hh]
    exact h1 hh
theorem ok_X8_whereOf (l : Launch) : sm_spok l lay sm_mt 2 95 sp_X8_whereOf := Or.inr (Or.inr (Or.inr ⟨by decide, by decide, by
  rw [mt_95]
  exact sm_method (T := TX8_) v_cok v_lok v_ka v_tok_X8 mok_X8_whereOf rfl (by unfold sm_rk; simp) wf_X8_whereOf (List.forall_mem_cons.mpr ⟨sm_spok_up (Nat.le_of_ble_eq_true rfl : 1 ≤ 1) (ok_X8_isHere l), fun _ h => absurd h List.not_mem_nil⟩) b_X8_whereOf⟩))
def sp_X8_kindOf : sm_SP := fun as g K => match as with
  | [.ref p, .int t] => p = 15 ∧ zT g ∧ (okT g t → K (some (.int (rA g 16 (tn t)))) g) ∧ (¬ okT g t → K (some (.int (sI 0))) g)
  | _ => False
theorem wf_X8_kindOf : sm_wf lay (yX8_kindOf, cX8_kindOf, 2, (some .int)) 2 false sp_X8_kindOf := by
  intro as g K h
  simp only [sp_X8_kindOf] at h
  split at h
  · exact ⟨Nat.le_of_ble_eq_true rfl, by simp, rfl, fun _ => by obtain rfl := h.1; exact ⟨15, _, 8, [18, 19, 20, 21, 22, 23, 24, 25, 26, 1, 1], TX8, 11, rfl, rfl, rfl⟩⟩
  · exact h.elim
set_option maxHeartbeats 4000000 in
set_option maxRecDepth 100000 in
theorem b_X8_kindOf : sm_body lay NX8_kindOf 2 0 (sm_cl [(91, sp_X8_has)]) sp_X8_kindOf := by
  intro K J S hW as g hs
  have hn := n_X8_kindOf
  have hf := fd_all
  have ha := ar_all
  generalize NX8_kindOf = N at hn hW
  generalize lay = L at hf ha hW
  obtain ⟨hS, hR⟩ := hW
  simp only [sp_X8_kindOf] at hs
  split at hs
  case h_2 => exact hs.elim
  simp only [e_args, sm_pad, List.length_cons, List.length_nil, Nat.reduceAdd, Nat.reduceSub, List.replicate_succ, List.replicate_zero, List.cons_append, List.nil_append]
  rename_i p t
  obtain ⟨rfl, z, h1, h2⟩ := hs
  have z2 := z.2
  by_cases hr : okT g t
  · obtain ⟨j, hj, rfl⟩ := ok_nI hr
    simp (disch := omega) only [tn_nI, hr, true_implies] at h1
    apply hR 20
    simp (maxSteps := 10000000) (disch := omega) only [hS, hn, sm_eqs, hf, ha, sm_b0, Int.reduceToNat, ↓reduceIte, Nat.reduceEqDiff, true_and, and_true, List.length_nil, List.length_cons, Nat.reduceAdd, Nat.reduceLeDiff, Nat.zero_le, false_implies, true_implies, not_true_eq_false, not_false_eq_true, implies_true, Nat.reduceSub, Nat.reduceMul, Nat.reduceDiv, reduceCtorEq, tn_clamp, nI_t, tn_nI, nI_add, pk_mul, rS_gS, rS_gA, rS_gL, rA_gS, rA_gA, rA_gL, rL_gS, rL_gA, rL_gL, and_self, and_false, false_and, if_true, if_false, true_or, or_true, or_false, false_or, sm_in, eqI, sI_s, Int32.toInt_zero, Int.natCast_zero, Int.natCast_one, Int.cast_ofNat_Int, Int.reduceEq, Int.reduceLT, Int.reduceLE, Int.reduceNeg, Int.reduceNe, ne_eq, n_up, g_up, e_cat, sp_X8_has, z, hr]
    clear hn hf ha hS hR
    grind
  · apply hR 20
    simp (maxSteps := 10000000) (disch := omega) only [hS, hn, sm_eqs, hf, ha, sm_b0, Int.reduceToNat, ↓reduceIte, Nat.reduceEqDiff, true_and, and_true, List.length_nil, List.length_cons, Nat.reduceAdd, Nat.reduceLeDiff, Nat.zero_le, false_implies, true_implies, not_true_eq_false, not_false_eq_true, implies_true, Nat.reduceSub, Nat.reduceMul, Nat.reduceDiv, reduceCtorEq, tn_clamp, nI_t, tn_nI, nI_add, pk_mul, rS_gS, rS_gA, rS_gL, rA_gS, rA_gA, rA_gL, rL_gS, rL_gA, rL_gL, and_self, and_false, false_and, if_true, if_false, true_or, or_true, or_false, false_or, sm_in, eqI, sI_s, Int32.toInt_zero, Int.natCast_zero, Int.natCast_one, Int.cast_ofNat_Int, Int.reduceEq, Int.reduceLT, Int.reduceLE, Int.reduceNeg, Int.reduceNe, ne_eq, n_up, g_up, e_cat, sp_X8_has, z, hr]
    exact h2 hr
theorem ok_X8_kindOf (l : Launch) : sm_spok l lay sm_mt 2 96 sp_X8_kindOf := Or.inr (Or.inr (Or.inr ⟨by decide, by decide, by
  rw [mt_96]
  exact sm_method (T := TX8_) v_cok v_lok v_ka v_tok_X8 mok_X8_kindOf rfl (by unfold sm_rk; simp) wf_X8_kindOf (List.forall_mem_cons.mpr ⟨sm_spok_up (Nat.le_of_ble_eq_true rfl : 1 ≤ 1) (ok_X8_has l), fun _ h => absurd h List.not_mem_nil⟩) b_X8_kindOf⟩))
def sp_X8_finderOf : sm_SP := fun as g K => match as with
  | [.ref p, .int t] => p = 15 ∧ zT g ∧ (okT g t → K (some (.int (rA g 17 (tn t)))) g) ∧ (¬ okT g t → K (some (.int (sI 0))) g)
  | _ => False
theorem wf_X8_finderOf : sm_wf lay (yX8_finderOf, cX8_finderOf, 2, (some .int)) 2 false sp_X8_finderOf := by
  intro as g K h
  simp only [sp_X8_finderOf] at h
  split at h
  · exact ⟨Nat.le_of_ble_eq_true rfl, by simp, rfl, fun _ => by obtain rfl := h.1; exact ⟨15, _, 8, [18, 19, 20, 21, 22, 23, 24, 25, 26, 1, 1], TX8, 11, rfl, rfl, rfl⟩⟩
  · exact h.elim
set_option maxHeartbeats 4000000 in
set_option maxRecDepth 100000 in
theorem b_X8_finderOf : sm_body lay NX8_finderOf 2 0 (sm_cl [(91, sp_X8_has)]) sp_X8_finderOf := by
  intro K J S hW as g hs
  have hn := n_X8_finderOf
  have hf := fd_all
  have ha := ar_all
  generalize NX8_finderOf = N at hn hW
  generalize lay = L at hf ha hW
  obtain ⟨hS, hR⟩ := hW
  simp only [sp_X8_finderOf] at hs
  split at hs
  case h_2 => exact hs.elim
  simp only [e_args, sm_pad, List.length_cons, List.length_nil, Nat.reduceAdd, Nat.reduceSub, List.replicate_succ, List.replicate_zero, List.cons_append, List.nil_append]
  rename_i p t
  obtain ⟨rfl, z, h1, h2⟩ := hs
  have z2 := z.2
  by_cases hr : okT g t
  · obtain ⟨j, hj, rfl⟩ := ok_nI hr
    simp (disch := omega) only [tn_nI, hr, true_implies] at h1
    apply hR 20
    simp (maxSteps := 10000000) (disch := omega) only [hS, hn, sm_eqs, hf, ha, sm_b0, Int.reduceToNat, ↓reduceIte, Nat.reduceEqDiff, true_and, and_true, List.length_nil, List.length_cons, Nat.reduceAdd, Nat.reduceLeDiff, Nat.zero_le, false_implies, true_implies, not_true_eq_false, not_false_eq_true, implies_true, Nat.reduceSub, Nat.reduceMul, Nat.reduceDiv, reduceCtorEq, tn_clamp, nI_t, tn_nI, nI_add, pk_mul, rS_gS, rS_gA, rS_gL, rA_gS, rA_gA, rA_gL, rL_gS, rL_gA, rL_gL, and_self, and_false, false_and, if_true, if_false, true_or, or_true, or_false, false_or, sm_in, eqI, sI_s, Int32.toInt_zero, Int.natCast_zero, Int.natCast_one, Int.cast_ofNat_Int, Int.reduceEq, Int.reduceLT, Int.reduceLE, Int.reduceNeg, Int.reduceNe, ne_eq, n_up, g_up, e_cat, sp_X8_has, z, hr]
    clear hn hf ha hS hR
    grind
  · apply hR 20
    simp (maxSteps := 10000000) (disch := omega) only [hS, hn, sm_eqs, hf, ha, sm_b0, Int.reduceToNat, ↓reduceIte, Nat.reduceEqDiff, true_and, and_true, List.length_nil, List.length_cons, Nat.reduceAdd, Nat.reduceLeDiff, Nat.zero_le, false_implies, true_implies, not_true_eq_false, not_false_eq_true, implies_true, Nat.reduceSub, Nat.reduceMul, Nat.reduceDiv, reduceCtorEq, tn_clamp, nI_t, tn_nI, nI_add, pk_mul, rS_gS, rS_gA, rS_gL, rA_gS, rA_gA, rA_gL, rL_gS, rL_gA, rL_gL, and_self, and_false, false_and, if_true, if_false, true_or, or_true, or_false, false_or, sm_in, eqI, sI_s, Int32.toInt_zero, Int.natCast_zero, Int.natCast_one, Int.cast_ofNat_Int, Int.reduceEq, Int.reduceLT, Int.reduceLE, Int.reduceNeg, Int.reduceNe, ne_eq, n_up, g_up, e_cat, sp_X8_has, z, hr]
    exact h2 hr
theorem ok_X8_finderOf (l : Launch) : sm_spok l lay sm_mt 2 97 sp_X8_finderOf := Or.inr (Or.inr (Or.inr ⟨by decide, by decide, by
  rw [mt_97]
  exact sm_method (T := TX8_) v_cok v_lok v_ka v_tok_X8 mok_X8_finderOf rfl (by unfold sm_rk; simp) wf_X8_finderOf (List.forall_mem_cons.mpr ⟨sm_spok_up (Nat.le_of_ble_eq_true rfl : 1 ≤ 1) (ok_X8_has l), fun _ h => absurd h List.not_mem_nil⟩) b_X8_finderOf⟩))
def sp_X8_bagOf : sm_SP := fun as g K => match as with
  | [.ref p, .int t] => p = 15 ∧ zT g ∧ (okT g t → K (some (.int (rA g 19 (tn t)))) g) ∧ (¬ okT g t → K (some (.int (sI 0))) g)
  | _ => False
theorem wf_X8_bagOf : sm_wf lay (yX8_bagOf, cX8_bagOf, 2, (some .int)) 2 false sp_X8_bagOf := by
  intro as g K h
  simp only [sp_X8_bagOf] at h
  split at h
  · exact ⟨Nat.le_of_ble_eq_true rfl, by simp, rfl, fun _ => by obtain rfl := h.1; exact ⟨15, _, 8, [18, 19, 20, 21, 22, 23, 24, 25, 26, 1, 1], TX8, 11, rfl, rfl, rfl⟩⟩
  · exact h.elim
set_option maxHeartbeats 4000000 in
set_option maxRecDepth 100000 in
theorem b_X8_bagOf : sm_body lay NX8_bagOf 2 0 (sm_cl [(91, sp_X8_has)]) sp_X8_bagOf := by
  intro K J S hW as g hs
  have hn := n_X8_bagOf
  have hf := fd_all
  have ha := ar_all
  generalize NX8_bagOf = N at hn hW
  generalize lay = L at hf ha hW
  obtain ⟨hS, hR⟩ := hW
  simp only [sp_X8_bagOf] at hs
  split at hs
  case h_2 => exact hs.elim
  simp only [e_args, sm_pad, List.length_cons, List.length_nil, Nat.reduceAdd, Nat.reduceSub, List.replicate_succ, List.replicate_zero, List.cons_append, List.nil_append]
  rename_i p t
  obtain ⟨rfl, z, h1, h2⟩ := hs
  have z2 := z.2
  by_cases hr : okT g t
  · obtain ⟨j, hj, rfl⟩ := ok_nI hr
    simp (disch := omega) only [tn_nI, hr, true_implies] at h1
    apply hR 20
    simp (maxSteps := 10000000) (disch := omega) only [hS, hn, sm_eqs, hf, ha, sm_b0, Int.reduceToNat, ↓reduceIte, Nat.reduceEqDiff, true_and, and_true, List.length_nil, List.length_cons, Nat.reduceAdd, Nat.reduceLeDiff, Nat.zero_le, false_implies, true_implies, not_true_eq_false, not_false_eq_true, implies_true, Nat.reduceSub, Nat.reduceMul, Nat.reduceDiv, reduceCtorEq, tn_clamp, nI_t, tn_nI, nI_add, pk_mul, rS_gS, rS_gA, rS_gL, rA_gS, rA_gA, rA_gL, rL_gS, rL_gA, rL_gL, and_self, and_false, false_and, if_true, if_false, true_or, or_true, or_false, false_or, sm_in, eqI, sI_s, Int32.toInt_zero, Int.natCast_zero, Int.natCast_one, Int.cast_ofNat_Int, Int.reduceEq, Int.reduceLT, Int.reduceLE, Int.reduceNeg, Int.reduceNe, ne_eq, n_up, g_up, e_cat, sp_X8_has, z, hr]
    clear hn hf ha hS hR
    grind
  · apply hR 20
    simp (maxSteps := 10000000) (disch := omega) only [hS, hn, sm_eqs, hf, ha, sm_b0, Int.reduceToNat, ↓reduceIte, Nat.reduceEqDiff, true_and, and_true, List.length_nil, List.length_cons, Nat.reduceAdd, Nat.reduceLeDiff, Nat.zero_le, false_implies, true_implies, not_true_eq_false, not_false_eq_true, implies_true, Nat.reduceSub, Nat.reduceMul, Nat.reduceDiv, reduceCtorEq, tn_clamp, nI_t, tn_nI, nI_add, pk_mul, rS_gS, rS_gA, rS_gL, rA_gS, rA_gA, rA_gL, rL_gS, rL_gA, rL_gL, and_self, and_false, false_and, if_true, if_false, true_or, or_true, or_false, false_or, sm_in, eqI, sI_s, Int32.toInt_zero, Int.natCast_zero, Int.natCast_one, Int.cast_ofNat_Int, Int.reduceEq, Int.reduceLT, Int.reduceLE, Int.reduceNeg, Int.reduceNe, ne_eq, n_up, g_up, e_cat, sp_X8_has, z, hr]
    exact h2 hr
theorem ok_X8_bagOf (l : Launch) : sm_spok l lay sm_mt 2 99 sp_X8_bagOf := Or.inr (Or.inr (Or.inr ⟨by decide, by decide, by
  rw [mt_99]
  exact sm_method (T := TX8_) v_cok v_lok v_ka v_tok_X8 mok_X8_bagOf rfl (by unfold sm_rk; simp) wf_X8_bagOf (List.forall_mem_cons.mpr ⟨sm_spok_up (Nat.le_of_ble_eq_true rfl : 1 ≤ 1) (ok_X8_has l), fun _ h => absurd h List.not_mem_nil⟩) b_X8_bagOf⟩))
def sp_X8_ageOf : sm_SP := fun as g K => match as with
  | [.ref p, .int t] => p = 15 ∧ zT g ∧ (okT g t → K (some (.int (rA g 20 (tn t)))) g) ∧ (¬ okT g t → K (some (.int (sI 0))) g)
  | _ => False
theorem wf_X8_ageOf : sm_wf lay (yX8_ageOf, cX8_ageOf, 2, (some .int)) 2 false sp_X8_ageOf := by
  intro as g K h
  simp only [sp_X8_ageOf] at h
  split at h
  · exact ⟨Nat.le_of_ble_eq_true rfl, by simp, rfl, fun _ => by obtain rfl := h.1; exact ⟨15, _, 8, [18, 19, 20, 21, 22, 23, 24, 25, 26, 1, 1], TX8, 11, rfl, rfl, rfl⟩⟩
  · exact h.elim
set_option maxHeartbeats 4000000 in
set_option maxRecDepth 100000 in
theorem b_X8_ageOf : sm_body lay NX8_ageOf 2 0 (sm_cl [(91, sp_X8_has)]) sp_X8_ageOf := by
  intro K J S hW as g hs
  have hn := n_X8_ageOf
  have hf := fd_all
  have ha := ar_all
  generalize NX8_ageOf = N at hn hW
  generalize lay = L at hf ha hW
  obtain ⟨hS, hR⟩ := hW
  simp only [sp_X8_ageOf] at hs
  split at hs
  case h_2 => exact hs.elim
  simp only [e_args, sm_pad, List.length_cons, List.length_nil, Nat.reduceAdd, Nat.reduceSub, List.replicate_succ, List.replicate_zero, List.cons_append, List.nil_append]
  rename_i p t
  obtain ⟨rfl, z, h1, h2⟩ := hs
  have z2 := z.2
  by_cases hr : okT g t
  · obtain ⟨j, hj, rfl⟩ := ok_nI hr
    simp (disch := omega) only [tn_nI, hr, true_implies] at h1
    apply hR 20
    simp (maxSteps := 10000000) (disch := omega) only [hS, hn, sm_eqs, hf, ha, sm_b0, Int.reduceToNat, ↓reduceIte, Nat.reduceEqDiff, true_and, and_true, List.length_nil, List.length_cons, Nat.reduceAdd, Nat.reduceLeDiff, Nat.zero_le, false_implies, true_implies, not_true_eq_false, not_false_eq_true, implies_true, Nat.reduceSub, Nat.reduceMul, Nat.reduceDiv, reduceCtorEq, tn_clamp, nI_t, tn_nI, nI_add, pk_mul, rS_gS, rS_gA, rS_gL, rA_gS, rA_gA, rA_gL, rL_gS, rL_gA, rL_gL, and_self, and_false, false_and, if_true, if_false, true_or, or_true, or_false, false_or, sm_in, eqI, sI_s, Int32.toInt_zero, Int.natCast_zero, Int.natCast_one, Int.cast_ofNat_Int, Int.reduceEq, Int.reduceLT, Int.reduceLE, Int.reduceNeg, Int.reduceNe, ne_eq, n_up, g_up, e_cat, sp_X8_has, z, hr]
    clear hn hf ha hS hR
    grind
  · apply hR 20
    simp (maxSteps := 10000000) (disch := omega) only [hS, hn, sm_eqs, hf, ha, sm_b0, Int.reduceToNat, ↓reduceIte, Nat.reduceEqDiff, true_and, and_true, List.length_nil, List.length_cons, Nat.reduceAdd, Nat.reduceLeDiff, Nat.zero_le, false_implies, true_implies, not_true_eq_false, not_false_eq_true, implies_true, Nat.reduceSub, Nat.reduceMul, Nat.reduceDiv, reduceCtorEq, tn_clamp, nI_t, tn_nI, nI_add, pk_mul, rS_gS, rS_gA, rS_gL, rA_gS, rA_gA, rA_gL, rL_gS, rL_gA, rL_gL, and_self, and_false, false_and, if_true, if_false, true_or, or_true, or_false, false_or, sm_in, eqI, sI_s, Int32.toInt_zero, Int.natCast_zero, Int.natCast_one, Int.cast_ofNat_Int, Int.reduceEq, Int.reduceLT, Int.reduceLE, Int.reduceNeg, Int.reduceNe, ne_eq, n_up, g_up, e_cat, sp_X8_has, z, hr]
    exact h2 hr
theorem ok_X8_ageOf (l : Launch) : sm_spok l lay sm_mt 2 100 sp_X8_ageOf := Or.inr (Or.inr (Or.inr ⟨by decide, by decide, by
  rw [mt_100]
  exact sm_method (T := TX8_) v_cok v_lok v_ka v_tok_X8 mok_X8_ageOf rfl (by unfold sm_rk; simp) wf_X8_ageOf (List.forall_mem_cons.mpr ⟨sm_spok_up (Nat.le_of_ble_eq_true rfl : 1 ≤ 1) (ok_X8_has l), fun _ h => absurd h List.not_mem_nil⟩) b_X8_ageOf⟩))
def sp_X8_takerOf : sm_SP := fun as g K => match as with
  | [.ref p, .int t] => p = 15 ∧ zT g ∧ (okT g t → K (some (.int (rA g 21 (tn t)))) g) ∧ (¬ okT g t → K (some (.int (sI 0))) g)
  | _ => False
theorem wf_X8_takerOf : sm_wf lay (yX8_takerOf, cX8_takerOf, 2, (some .int)) 2 false sp_X8_takerOf := by
  intro as g K h
  simp only [sp_X8_takerOf] at h
  split at h
  · exact ⟨Nat.le_of_ble_eq_true rfl, by simp, rfl, fun _ => by obtain rfl := h.1; exact ⟨15, _, 8, [18, 19, 20, 21, 22, 23, 24, 25, 26, 1, 1], TX8, 11, rfl, rfl, rfl⟩⟩
  · exact h.elim
set_option maxHeartbeats 4000000 in
set_option maxRecDepth 100000 in
theorem b_X8_takerOf : sm_body lay NX8_takerOf 2 0 (sm_cl [(91, sp_X8_has)]) sp_X8_takerOf := by
  intro K J S hW as g hs
  have hn := n_X8_takerOf
  have hf := fd_all
  have ha := ar_all
  generalize NX8_takerOf = N at hn hW
  generalize lay = L at hf ha hW
  obtain ⟨hS, hR⟩ := hW
  simp only [sp_X8_takerOf] at hs
  split at hs
  case h_2 => exact hs.elim
  simp only [e_args, sm_pad, List.length_cons, List.length_nil, Nat.reduceAdd, Nat.reduceSub, List.replicate_succ, List.replicate_zero, List.cons_append, List.nil_append]
  rename_i p t
  obtain ⟨rfl, z, h1, h2⟩ := hs
  have z2 := z.2
  by_cases hr : okT g t
  · obtain ⟨j, hj, rfl⟩ := ok_nI hr
    simp (disch := omega) only [tn_nI, hr, true_implies] at h1
    apply hR 20
    simp (maxSteps := 10000000) (disch := omega) only [hS, hn, sm_eqs, hf, ha, sm_b0, Int.reduceToNat, ↓reduceIte, Nat.reduceEqDiff, true_and, and_true, List.length_nil, List.length_cons, Nat.reduceAdd, Nat.reduceLeDiff, Nat.zero_le, false_implies, true_implies, not_true_eq_false, not_false_eq_true, implies_true, Nat.reduceSub, Nat.reduceMul, Nat.reduceDiv, reduceCtorEq, tn_clamp, nI_t, tn_nI, nI_add, pk_mul, rS_gS, rS_gA, rS_gL, rA_gS, rA_gA, rA_gL, rL_gS, rL_gA, rL_gL, and_self, and_false, false_and, if_true, if_false, true_or, or_true, or_false, false_or, sm_in, eqI, sI_s, Int32.toInt_zero, Int.natCast_zero, Int.natCast_one, Int.cast_ofNat_Int, Int.reduceEq, Int.reduceLT, Int.reduceLE, Int.reduceNeg, Int.reduceNe, ne_eq, n_up, g_up, e_cat, sp_X8_has, z, hr]
    clear hn hf ha hS hR
    grind
  · apply hR 20
    simp (maxSteps := 10000000) (disch := omega) only [hS, hn, sm_eqs, hf, ha, sm_b0, Int.reduceToNat, ↓reduceIte, Nat.reduceEqDiff, true_and, and_true, List.length_nil, List.length_cons, Nat.reduceAdd, Nat.reduceLeDiff, Nat.zero_le, false_implies, true_implies, not_true_eq_false, not_false_eq_true, implies_true, Nat.reduceSub, Nat.reduceMul, Nat.reduceDiv, reduceCtorEq, tn_clamp, nI_t, tn_nI, nI_add, pk_mul, rS_gS, rS_gA, rS_gL, rA_gS, rA_gA, rA_gL, rL_gS, rL_gA, rL_gL, and_self, and_false, false_and, if_true, if_false, true_or, or_true, or_false, false_or, sm_in, eqI, sI_s, Int32.toInt_zero, Int.natCast_zero, Int.natCast_one, Int.cast_ofNat_Int, Int.reduceEq, Int.reduceLT, Int.reduceLE, Int.reduceNeg, Int.reduceNe, ne_eq, n_up, g_up, e_cat, sp_X8_has, z, hr]
    exact h2 hr
theorem ok_X8_takerOf (l : Launch) : sm_spok l lay sm_mt 2 101 sp_X8_takerOf := Or.inr (Or.inr (Or.inr ⟨by decide, by decide, by
  rw [mt_101]
  exact sm_method (T := TX8_) v_cok v_lok v_ka v_tok_X8 mok_X8_takerOf rfl (by unfold sm_rk; simp) wf_X8_takerOf (List.forall_mem_cons.mpr ⟨sm_spok_up (Nat.le_of_ble_eq_true rfl : 1 ≤ 1) (ok_X8_has l), fun _ h => absurd h List.not_mem_nil⟩) b_X8_takerOf⟩))
def sp_X8_outDayOf : sm_SP := fun as g K => match as with
  | [.ref p, .int t] => p = 15 ∧ zT g ∧ (okT g t → K (some (.int (rA g 22 (tn t)))) g) ∧ (¬ okT g t → K (some (.int (sI 0))) g)
  | _ => False
theorem wf_X8_outDayOf : sm_wf lay (yX8_outDayOf, cX8_outDayOf, 2, (some .int)) 2 false sp_X8_outDayOf := by
  intro as g K h
  simp only [sp_X8_outDayOf] at h
  split at h
  · exact ⟨Nat.le_of_ble_eq_true rfl, by simp, rfl, fun _ => by obtain rfl := h.1; exact ⟨15, _, 8, [18, 19, 20, 21, 22, 23, 24, 25, 26, 1, 1], TX8, 11, rfl, rfl, rfl⟩⟩
  · exact h.elim
set_option maxHeartbeats 4000000 in
set_option maxRecDepth 100000 in
theorem b_X8_outDayOf : sm_body lay NX8_outDayOf 2 0 (sm_cl [(91, sp_X8_has)]) sp_X8_outDayOf := by
  intro K J S hW as g hs
  have hn := n_X8_outDayOf
  have hf := fd_all
  have ha := ar_all
  generalize NX8_outDayOf = N at hn hW
  generalize lay = L at hf ha hW
  obtain ⟨hS, hR⟩ := hW
  simp only [sp_X8_outDayOf] at hs
  split at hs
  case h_2 => exact hs.elim
  simp only [e_args, sm_pad, List.length_cons, List.length_nil, Nat.reduceAdd, Nat.reduceSub, List.replicate_succ, List.replicate_zero, List.cons_append, List.nil_append]
  rename_i p t
  obtain ⟨rfl, z, h1, h2⟩ := hs
  have z2 := z.2
  by_cases hr : okT g t
  · obtain ⟨j, hj, rfl⟩ := ok_nI hr
    simp (disch := omega) only [tn_nI, hr, true_implies] at h1
    apply hR 20
    simp (maxSteps := 10000000) (disch := omega) only [hS, hn, sm_eqs, hf, ha, sm_b0, Int.reduceToNat, ↓reduceIte, Nat.reduceEqDiff, true_and, and_true, List.length_nil, List.length_cons, Nat.reduceAdd, Nat.reduceLeDiff, Nat.zero_le, false_implies, true_implies, not_true_eq_false, not_false_eq_true, implies_true, Nat.reduceSub, Nat.reduceMul, Nat.reduceDiv, reduceCtorEq, tn_clamp, nI_t, tn_nI, nI_add, pk_mul, rS_gS, rS_gA, rS_gL, rA_gS, rA_gA, rA_gL, rL_gS, rL_gA, rL_gL, and_self, and_false, false_and, if_true, if_false, true_or, or_true, or_false, false_or, sm_in, eqI, sI_s, Int32.toInt_zero, Int.natCast_zero, Int.natCast_one, Int.cast_ofNat_Int, Int.reduceEq, Int.reduceLT, Int.reduceLE, Int.reduceNeg, Int.reduceNe, ne_eq, n_up, g_up, e_cat, sp_X8_has, z, hr]
    clear hn hf ha hS hR
    grind
  · apply hR 20
    simp (maxSteps := 10000000) (disch := omega) only [hS, hn, sm_eqs, hf, ha, sm_b0, Int.reduceToNat, ↓reduceIte, Nat.reduceEqDiff, true_and, and_true, List.length_nil, List.length_cons, Nat.reduceAdd, Nat.reduceLeDiff, Nat.zero_le, false_implies, true_implies, not_true_eq_false, not_false_eq_true, implies_true, Nat.reduceSub, Nat.reduceMul, Nat.reduceDiv, reduceCtorEq, tn_clamp, nI_t, tn_nI, nI_add, pk_mul, rS_gS, rS_gA, rS_gL, rA_gS, rA_gA, rA_gL, rL_gS, rL_gA, rL_gL, and_self, and_false, false_and, if_true, if_false, true_or, or_true, or_false, false_or, sm_in, eqI, sI_s, Int32.toInt_zero, Int.natCast_zero, Int.natCast_one, Int.cast_ofNat_Int, Int.reduceEq, Int.reduceLT, Int.reduceLE, Int.reduceNeg, Int.reduceNe, ne_eq, n_up, g_up, e_cat, sp_X8_has, z, hr]
    exact h2 hr
theorem ok_X8_outDayOf (l : Launch) : sm_spok l lay sm_mt 2 102 sp_X8_outDayOf := Or.inr (Or.inr (Or.inr ⟨by decide, by decide, by
  rw [mt_102]
  exact sm_method (T := TX8_) v_cok v_lok v_ka v_tok_X8 mok_X8_outDayOf rfl (by unfold sm_rk; simp) wf_X8_outDayOf (List.forall_mem_cons.mpr ⟨sm_spok_up (Nat.le_of_ble_eq_true rfl : 1 ≤ 1) (ok_X8_has l), fun _ h => absurd h List.not_mem_nil⟩) b_X8_outDayOf⟩))
def sp_X8_whyOf : sm_SP := fun as g K => match as with
  | [.ref p, .int t] => p = 15 ∧ zT g ∧ (okT g t → K (some (.int (rA g 23 (tn t)))) g) ∧ (¬ okT g t → K (some (.int (sI 0))) g)
  | _ => False
theorem wf_X8_whyOf : sm_wf lay (yX8_whyOf, cX8_whyOf, 2, (some .int)) 2 false sp_X8_whyOf := by
  intro as g K h
  simp only [sp_X8_whyOf] at h
  split at h
  · exact ⟨Nat.le_of_ble_eq_true rfl, by simp, rfl, fun _ => by obtain rfl := h.1; exact ⟨15, _, 8, [18, 19, 20, 21, 22, 23, 24, 25, 26, 1, 1], TX8, 11, rfl, rfl, rfl⟩⟩
  · exact h.elim
set_option maxHeartbeats 4000000 in
set_option maxRecDepth 100000 in
theorem b_X8_whyOf : sm_body lay NX8_whyOf 2 0 (sm_cl [(91, sp_X8_has)]) sp_X8_whyOf := by
  intro K J S hW as g hs
  have hn := n_X8_whyOf
  have hf := fd_all
  have ha := ar_all
  generalize NX8_whyOf = N at hn hW
  generalize lay = L at hf ha hW
  obtain ⟨hS, hR⟩ := hW
  simp only [sp_X8_whyOf] at hs
  split at hs
  case h_2 => exact hs.elim
  simp only [e_args, sm_pad, List.length_cons, List.length_nil, Nat.reduceAdd, Nat.reduceSub, List.replicate_succ, List.replicate_zero, List.cons_append, List.nil_append]
  rename_i p t
  obtain ⟨rfl, z, h1, h2⟩ := hs
  have z2 := z.2
  by_cases hr : okT g t
  · obtain ⟨j, hj, rfl⟩ := ok_nI hr
    simp (disch := omega) only [tn_nI, hr, true_implies] at h1
    apply hR 20
    simp (maxSteps := 10000000) (disch := omega) only [hS, hn, sm_eqs, hf, ha, sm_b0, Int.reduceToNat, ↓reduceIte, Nat.reduceEqDiff, true_and, and_true, List.length_nil, List.length_cons, Nat.reduceAdd, Nat.reduceLeDiff, Nat.zero_le, false_implies, true_implies, not_true_eq_false, not_false_eq_true, implies_true, Nat.reduceSub, Nat.reduceMul, Nat.reduceDiv, reduceCtorEq, tn_clamp, nI_t, tn_nI, nI_add, pk_mul, rS_gS, rS_gA, rS_gL, rA_gS, rA_gA, rA_gL, rL_gS, rL_gA, rL_gL, and_self, and_false, false_and, if_true, if_false, true_or, or_true, or_false, false_or, sm_in, eqI, sI_s, Int32.toInt_zero, Int.natCast_zero, Int.natCast_one, Int.cast_ofNat_Int, Int.reduceEq, Int.reduceLT, Int.reduceLE, Int.reduceNeg, Int.reduceNe, ne_eq, n_up, g_up, e_cat, sp_X8_has, z, hr]
    clear hn hf ha hS hR
    grind
  · apply hR 20
    simp (maxSteps := 10000000) (disch := omega) only [hS, hn, sm_eqs, hf, ha, sm_b0, Int.reduceToNat, ↓reduceIte, Nat.reduceEqDiff, true_and, and_true, List.length_nil, List.length_cons, Nat.reduceAdd, Nat.reduceLeDiff, Nat.zero_le, false_implies, true_implies, not_true_eq_false, not_false_eq_true, implies_true, Nat.reduceSub, Nat.reduceMul, Nat.reduceDiv, reduceCtorEq, tn_clamp, nI_t, tn_nI, nI_add, pk_mul, rS_gS, rS_gA, rS_gL, rA_gS, rA_gA, rA_gL, rL_gS, rL_gA, rL_gL, and_self, and_false, false_and, if_true, if_false, true_or, or_true, or_false, false_or, sm_in, eqI, sI_s, Int32.toInt_zero, Int.natCast_zero, Int.natCast_one, Int.cast_ofNat_Int, Int.reduceEq, Int.reduceLT, Int.reduceLE, Int.reduceNeg, Int.reduceNe, ne_eq, n_up, g_up, e_cat, sp_X8_has, z, hr]
    exact h2 hr
theorem ok_X8_whyOf (l : Launch) : sm_spok l lay sm_mt 2 103 sp_X8_whyOf := Or.inr (Or.inr (Or.inr ⟨by decide, by decide, by
  rw [mt_103]
  exact sm_method (T := TX8_) v_cok v_lok v_ka v_tok_X8 mok_X8_whyOf rfl (by unfold sm_rk; simp) wf_X8_whyOf (List.forall_mem_cons.mpr ⟨sm_spok_up (Nat.le_of_ble_eq_true rfl : 1 ≤ 1) (ok_X8_has l), fun _ h => absurd h List.not_mem_nil⟩) b_X8_whyOf⟩))
def sp_X8_isWantedByFinder : sm_SP := fun as g K => match as with
  | [.ref p, .int t] => p = 15 ∧ zT g ∧ (∀ i, rA g 18 i = nI 0 ∨ rA g 18 i = nI 1) ∧ okT g t ∧ (rA g 18 (tn t) = nI 1 ∧ (rA g 17 (tn t)).toInt ≠ 0 → K (some (.int (nI 1))) g) ∧ (¬ (rA g 18 (tn t) = nI 1 ∧ (rA g 17 (tn t)).toInt ≠ 0) → K (some (.int (nI 0))) g)
  | _ => False
theorem wf_X8_isWantedByFinder : sm_wf lay (yX8_isWantedByFinder, cX8_isWantedByFinder, 2, (some .boolean)) 2 false sp_X8_isWantedByFinder := by
  intro as g K h
  simp only [sp_X8_isWantedByFinder] at h
  split at h
  · exact ⟨Nat.le_of_ble_eq_true rfl, by simp, rfl, fun _ => by obtain rfl := h.1; exact ⟨15, _, 8, [18, 19, 20, 21, 22, 23, 24, 25, 26, 1, 1], TX8, 11, rfl, rfl, rfl⟩⟩
  · exact h.elim
set_option maxHeartbeats 4000000 in
set_option maxRecDepth 100000 in
theorem b_X8_isWantedByFinder : sm_body lay NX8_isWantedByFinder 2 1 (sm_cl [(91, sp_X8_has)]) sp_X8_isWantedByFinder := by
  intro K J S hW as g hs
  have hn := n_X8_isWantedByFinder
  have hf := fd_all
  have ha := ar_all
  generalize NX8_isWantedByFinder = N at hn hW
  generalize lay = L at hf ha hW
  obtain ⟨hS, hR⟩ := hW
  simp only [sp_X8_isWantedByFinder] at hs
  split at hs
  case h_2 => exact hs.elim
  simp only [e_args, sm_pad, List.length_cons, List.length_nil, Nat.reduceAdd, Nat.reduceSub, List.replicate_succ, List.replicate_zero, List.cons_append, List.nil_append]
  rename_i p t
  obtain ⟨rfl, z, hb, hr, h1, h2⟩ := hs
  have z2 := z.2
  obtain ⟨j, hj, rfl⟩ := ok_nI hr
  simp (disch := omega) only [tn_nI] at h1 h2
  rcases hb j with hb | hb
  · rw [hb] at h1 h2
    have h2 := h2 (fun h => absurd h.1 (by decide))
    apply hR 40
    simp (maxSteps := 10000000) (disch := omega) only [hS, hn, sm_eqs, hf, ha, sm_b0, Int.reduceToNat, ↓reduceIte, Nat.reduceEqDiff, true_and, and_true, List.length_nil, List.length_cons, Nat.reduceAdd, Nat.reduceLeDiff, Nat.zero_le, false_implies, true_implies, not_true_eq_false, not_false_eq_true, implies_true, Nat.reduceSub, Nat.reduceMul, Nat.reduceDiv, reduceCtorEq, tn_clamp, nI_t, tn_nI, nI_add, pk_mul, rS_gS, rS_gA, rS_gL, rA_gS, rA_gA, rA_gL, rL_gS, rL_gA, rL_gL, and_self, and_false, false_and, if_true, if_false, true_or, or_true, or_false, false_or, sm_in, eqI, sI_s, Int32.toInt_zero, Int.natCast_zero, Int.natCast_one, Int.cast_ofNat_Int, Int.reduceEq, Int.reduceLT, Int.reduceLE, Int.reduceNeg, Int.reduceNe, ne_eq, n_up, g_up, e_cat, sp_X8_has, z, hr, hb]
    clear hn hf ha hS hR
    grind
  · rw [hb] at h1 h2
    apply hR 40
    simp (maxSteps := 10000000) (disch := omega) only [hS, hn, sm_eqs, hf, ha, sm_b0, Int.reduceToNat, ↓reduceIte, Nat.reduceEqDiff, true_and, and_true, List.length_nil, List.length_cons, Nat.reduceAdd, Nat.reduceLeDiff, Nat.zero_le, false_implies, true_implies, not_true_eq_false, not_false_eq_true, implies_true, Nat.reduceSub, Nat.reduceMul, Nat.reduceDiv, reduceCtorEq, tn_clamp, nI_t, tn_nI, nI_add, pk_mul, rS_gS, rS_gA, rS_gL, rA_gS, rA_gA, rA_gL, rL_gS, rL_gA, rL_gL, and_self, and_false, false_and, if_true, if_false, true_or, or_true, or_false, false_or, sm_in, eqI, sI_s, Int32.toInt_zero, Int.natCast_zero, Int.natCast_one, Int.cast_ofNat_Int, Int.reduceEq, Int.reduceLT, Int.reduceLE, Int.reduceNeg, Int.reduceNe, ne_eq, n_up, g_up, e_cat, sp_X8_has, z, hr, hb]
    clear hn hf ha hS hR
    grind
theorem ok_X8_isWantedByFinder (l : Launch) : sm_spok l lay sm_mt 2 98 sp_X8_isWantedByFinder := Or.inr (Or.inr (Or.inr ⟨by decide, by decide, by
  rw [mt_98]
  exact sm_method (T := TX8_) v_cok v_lok v_ka v_tok_X8 mok_X8_isWantedByFinder rfl (by unfold sm_rk; simp) wf_X8_isWantedByFinder (List.forall_mem_cons.mpr ⟨sm_spok_up (Nat.le_of_ble_eq_true rfl : 1 ≤ 1) (ok_X8_has l), fun _ h => absurd h List.not_mem_nil⟩) b_X8_isWantedByFinder⟩))
def sp_X8_growOlder : sm_SP := fun as g K => match as with
  | [.ref p, .int t] => p = 15 ∧ zT g ∧ okT g t ∧ K (some (.int (rA g 20 (tn t) + nI 1))) (gA g 20 (upd (rA g 20) (tn t) (rA g 20 (tn t) + nI 1)))
  | _ => False
theorem wf_X8_growOlder : sm_wf lay (yX8_growOlder, cX8_growOlder, 2, (some .int)) 2 false sp_X8_growOlder := by
  intro as g K h
  simp only [sp_X8_growOlder] at h
  split at h
  · exact ⟨Nat.le_of_ble_eq_true rfl, by simp, rfl, fun _ => by obtain rfl := h.1; exact ⟨15, _, 8, [18, 19, 20, 21, 22, 23, 24, 25, 26, 1, 1], TX8, 11, rfl, rfl, rfl⟩⟩
  · exact h.elim
set_option maxHeartbeats 4000000 in
set_option maxRecDepth 100000 in
theorem b_X8_growOlder : sm_body lay NX8_growOlder 2 0 (sm_cl [(91, sp_X8_has)]) sp_X8_growOlder := by
  intro K J S hW as g hs
  have hn := n_X8_growOlder
  have hf := fd_all
  have ha := ar_all
  generalize NX8_growOlder = N at hn hW
  generalize lay = L at hf ha hW
  obtain ⟨hS, hR⟩ := hW
  simp only [sp_X8_growOlder] at hs
  split at hs
  case h_2 => exact hs.elim
  simp only [e_args, sm_pad, List.length_cons, List.length_nil, Nat.reduceAdd, Nat.reduceSub, List.replicate_succ, List.replicate_zero, List.cons_append, List.nil_append]
  rename_i p t
  obtain ⟨rfl, z, hr, hs⟩ := hs
  have z2 := z.2
  obtain ⟨j, hj, rfl⟩ := ok_nI hr
  simp (disch := omega) only [tn_nI] at hs
  apply hR 40
  simp (maxSteps := 10000000) (disch := omega) only [hS, hn, sm_eqs, hf, ha, sm_b0, Int.reduceToNat, ↓reduceIte, Nat.reduceEqDiff, true_and, and_true, List.length_nil, List.length_cons, Nat.reduceAdd, Nat.reduceLeDiff, Nat.zero_le, false_implies, true_implies, not_true_eq_false, not_false_eq_true, implies_true, Nat.reduceSub, Nat.reduceMul, Nat.reduceDiv, reduceCtorEq, tn_clamp, nI_t, tn_nI, nI_add, pk_mul, rS_gS, rS_gA, rS_gL, rA_gS, rA_gA, rA_gL, rL_gS, rL_gA, rL_gL, and_self, and_false, false_and, if_true, if_false, true_or, or_true, or_false, false_or, sm_in, eqI, sI_s, Int32.toInt_zero, Int.natCast_zero, Int.natCast_one, Int.cast_ofNat_Int, Int.reduceEq, Int.reduceLT, Int.reduceLE, Int.reduceNeg, Int.reduceNe, ne_eq, n_up, g_up, e_cat, sp_X8_has, z, hr, pk_us]
  clear hn hf ha hS hR
  grind
theorem ok_X8_growOlder (l : Launch) : sm_spok l lay sm_mt 2 104 sp_X8_growOlder := Or.inr (Or.inr (Or.inr ⟨by decide, by decide, by
  rw [mt_104]
  exact sm_method (T := TX8_) v_cok v_lok v_ka v_tok_X8 mok_X8_growOlder rfl (by unfold sm_rk; simp) wf_X8_growOlder (List.forall_mem_cons.mpr ⟨sm_spok_up (Nat.le_of_ble_eq_true rfl : 1 ≤ 1) (ok_X8_has l), fun _ h => absurd h List.not_mem_nil⟩) b_X8_growOlder⟩))
def sp_X8_moveTo : sm_SP := fun as g K => match as with
  | [.ref p, .int t, .int b] => p = 15 ∧ zT g ∧ okT g t ∧ K none (gA g 19 (upd (rA g 19) (tn t) b))
  | _ => False
theorem wf_X8_moveTo : sm_wf lay (yX8_moveTo, cX8_moveTo, 3, none) 3 false sp_X8_moveTo := by
  intro as g K h
  simp only [sp_X8_moveTo] at h
  split at h
  · exact ⟨Nat.le_of_ble_eq_true rfl, by simp, rfl, fun _ => by obtain rfl := h.1; exact ⟨15, _, 8, [18, 19, 20, 21, 22, 23, 24, 25, 26, 1, 1], TX8, 11, rfl, rfl, rfl⟩⟩
  · exact h.elim
set_option maxHeartbeats 4000000 in
set_option maxRecDepth 100000 in
theorem b_X8_moveTo : sm_body lay NX8_moveTo 3 4 (sm_cl [(91, sp_X8_has)]) sp_X8_moveTo := by
  intro K J S hW as g hs
  have hn := n_X8_moveTo
  have hf := fd_all
  have ha := ar_all
  generalize NX8_moveTo = N at hn hW
  generalize lay = L at hf ha hW
  obtain ⟨hS, hR⟩ := hW
  simp only [sp_X8_moveTo] at hs
  split at hs
  case h_2 => exact hs.elim
  simp only [e_args, sm_pad, List.length_cons, List.length_nil, Nat.reduceAdd, Nat.reduceSub, List.replicate_succ, List.replicate_zero, List.cons_append, List.nil_append]
  rename_i p t b
  obtain ⟨rfl, z, hr, hs⟩ := hs
  have z2 := z.2
  obtain ⟨j, hj, rfl⟩ := ok_nI hr
  simp (disch := omega) only [tn_nI] at hs
  apply hR 40
  simp (maxSteps := 10000000) (disch := omega) only [hS, hn, sm_eqs, hf, ha, sm_b0, Int.reduceToNat, ↓reduceIte, Nat.reduceEqDiff, true_and, and_true, List.length_nil, List.length_cons, Nat.reduceAdd, Nat.reduceLeDiff, Nat.zero_le, false_implies, true_implies, not_true_eq_false, not_false_eq_true, implies_true, Nat.reduceSub, Nat.reduceMul, Nat.reduceDiv, reduceCtorEq, tn_clamp, nI_t, tn_nI, nI_add, pk_mul, rS_gS, rS_gA, rS_gL, rA_gS, rA_gA, rA_gL, rL_gS, rL_gA, rL_gL, and_self, and_false, false_and, if_true, if_false, true_or, or_true, or_false, false_or, sm_in, eqI, sI_s, Int32.toInt_zero, Int.natCast_zero, Int.natCast_one, Int.cast_ofNat_Int, Int.reduceEq, Int.reduceLT, Int.reduceLE, Int.reduceNeg, Int.reduceNe, ne_eq, n_up, g_up, e_cat, sp_X8_has, z, hr]
  clear hn hf ha hS hR
  grind
theorem ok_X8_moveTo (l : Launch) : sm_spok l lay sm_mt 2 105 sp_X8_moveTo := Or.inr (Or.inr (Or.inr ⟨by decide, by decide, by
  rw [mt_105]
  exact sm_method (T := TX8_) v_cok v_lok v_ka v_tok_X8 mok_X8_moveTo rfl (by unfold sm_rk; simp) wf_X8_moveTo (List.forall_mem_cons.mpr ⟨sm_spok_up (Nat.le_of_ble_eq_true rfl : 1 ≤ 1) (ok_X8_has l), fun _ h => absurd h List.not_mem_nil⟩) b_X8_moveTo⟩))
def sp_X8_countInside : sm_SP := fun as g K => match as with
  | [.ref p, .int b] => p = 15 ∧ zT g ∧ K (some (.int (nI (cnt (fun t => (rA g 19 t).toInt == b.toInt) (nT g))))) g
  | _ => False
theorem wf_X8_countInside : sm_wf lay (yX8_countInside, cX8_countInside, 4, (some .int)) 2 false sp_X8_countInside := by
  intro as g K h
  simp only [sp_X8_countInside] at h
  split at h
  · exact ⟨Nat.le_of_ble_eq_true rfl, by simp, rfl, fun _ => by obtain rfl := h.1; exact ⟨15, _, 8, [18, 19, 20, 21, 22, 23, 24, 25, 26, 1, 1], TX8, 11, rfl, rfl, rfl⟩⟩
  · exact h.elim
set_option maxHeartbeats 4000000 in
set_option maxRecDepth 100000 in
theorem b_X8_countInside : sm_body lay NX8_countInside 4 0 (sm_cl []) sp_X8_countInside := by
  intro K J S hW as g hs
  have hn := n_X8_countInside
  have hf := fd_all
  have ha := ar_all
  generalize NX8_countInside = N at hn hW
  generalize lay = L at hf ha hW
  obtain ⟨hS, hR⟩ := hW
  simp only [sp_X8_countInside] at hs
  split at hs
  case h_2 => exact hs.elim
  simp only [e_args, sm_pad, List.length_cons, List.length_nil, Nat.reduceAdd, Nat.reduceSub, List.replicate_succ, List.replicate_zero, List.cons_append, List.nil_append]
  rename_i p b
  obtain ⟨rfl, z, hs⟩ := hs
  have z2 := z.2
  have loop : ∀ m t c, m = nT g - t → t ≤ nT g → c = cnt (fun t => (rA g 19 t).toInt == b.toInt) t → J 4 [some (.ref 15), some (.int b), some (.int (nI c)), some (.int (nI t))] [] g := by
    intro m
    induction m with
    | zero =>
      intro t c hm ht hc
      obtain rfl : t = nT g := by omega
      have hb := cnt_le (fun t => (rA g 19 t).toInt == b.toInt) (nT g)
      rw [← hc] at hb hs
      apply hR 40
      simp (maxSteps := 10000000) (disch := omega) only [hS, hn, sm_eqs, hf, ha, sm_b0, Int.reduceToNat, ↓reduceIte, Nat.reduceEqDiff, true_and, and_true, List.length_nil, List.length_cons, Nat.reduceAdd, Nat.reduceLeDiff, Nat.zero_le, false_implies, true_implies, not_true_eq_false, not_false_eq_true, implies_true, Nat.reduceSub, Nat.reduceMul, Nat.reduceDiv, reduceCtorEq, tn_clamp, nI_t, tn_nI, nI_add, pk_mul, rS_gS, rS_gA, rS_gL, rA_gS, rA_gA, rA_gL, rL_gS, rL_gA, rL_gL, and_self, and_false, false_and, if_true, if_false, true_or, or_true, or_false, false_or, sm_in, eqI, sI_s, Int32.toInt_zero, Int.natCast_zero, Int.natCast_one, Int.cast_ofNat_Int, Int.reduceEq, Int.reduceLT, Int.reduceLE, Int.reduceNeg, Int.reduceNe, ne_eq, n_up, g_up, e_cat, z.1]
      clear hn hf ha hS hR
      grind
    | succ m ih =>
      intro t c hm ht hc
      have hb := cnt_le (fun t => (rA g 19 t).toInt == b.toInt) t
      rw [← hc] at hb
      have e1 : ((rA g 19 t).toInt == b.toInt) = true → J 4 [some (.ref 15), some (.int b), some (.int (nI (c + 1))), some (.int (nI (t + 1)))] [] g := fun h => ih (t + 1) (c + 1) (by omega) (by omega) (by simp only [cnt, ← hc, h, if_true])
      have e0 : ¬ ((rA g 19 t).toInt == b.toInt) = true → J 4 [some (.ref 15), some (.int b), some (.int (nI c)), some (.int (nI (t + 1)))] [] g := fun h => ih (t + 1) c (by omega) (by omega) (by simp only [cnt, ← hc, h, if_false, Nat.add_zero]; rfl)
      clear ih hc
      simp only [beq_iff_eq] at e1 e0
      apply hR 40
      simp (maxSteps := 10000000) (disch := omega) only [hS, hn, sm_eqs, hf, ha, sm_b0, Int.reduceToNat, ↓reduceIte, Nat.reduceEqDiff, true_and, and_true, List.length_nil, List.length_cons, Nat.reduceAdd, Nat.reduceLeDiff, Nat.zero_le, false_implies, true_implies, not_true_eq_false, not_false_eq_true, implies_true, Nat.reduceSub, Nat.reduceMul, Nat.reduceDiv, reduceCtorEq, tn_clamp, nI_t, tn_nI, nI_add, pk_mul, rS_gS, rS_gA, rS_gL, rA_gS, rA_gA, rA_gL, rL_gS, rL_gA, rL_gL, and_self, and_false, false_and, if_true, if_false, true_or, or_true, or_false, false_or, sm_in, eqI, sI_s, Int32.toInt_zero, Int.natCast_zero, Int.natCast_one, Int.cast_ofNat_Int, Int.reduceEq, Int.reduceLT, Int.reduceLE, Int.reduceNeg, Int.reduceNe, ne_eq, n_up, g_up, e_cat, z.1]
      clear hn hf ha hS hR
      grind
  apply hR 40
  simp (maxSteps := 10000000) (disch := omega) only [hS, hn, sm_eqs, hf, ha, sm_b0, Int.reduceToNat, ↓reduceIte, Nat.reduceEqDiff, true_and, and_true, List.length_nil, List.length_cons, Nat.reduceAdd, Nat.reduceLeDiff, Nat.zero_le, false_implies, true_implies, not_true_eq_false, not_false_eq_true, implies_true, Nat.reduceSub, Nat.reduceMul, Nat.reduceDiv, reduceCtorEq, tn_clamp, nI_t, tn_nI, nI_add, pk_mul, rS_gS, rS_gA, rS_gL, rA_gS, rA_gA, rA_gL, rL_gS, rL_gA, rL_gL, and_self, and_false, false_and, if_true, if_false, true_or, or_true, or_false, false_or, sm_in, eqI, sI_s, Int32.toInt_zero, Int.natCast_zero, Int.natCast_one, Int.cast_ofNat_Int, Int.reduceEq, Int.reduceLT, Int.reduceLE, Int.reduceNeg, Int.reduceNe, ne_eq, n_up, g_up, e_cat]
  exact loop _ 0 0 rfl (Nat.zero_le _) rfl
theorem ok_X8_countInside (l : Launch) : sm_spok l lay sm_mt 1 108 sp_X8_countInside := Or.inr (Or.inr (Or.inr ⟨by decide, by decide, by
  rw [mt_108]
  exact sm_method (T := TX8_) v_cok v_lok v_ka v_tok_X8 mok_X8_countInside rfl (by unfold sm_rk; simp) wf_X8_countInside (fun _ h => absurd h List.not_mem_nil) b_X8_countInside⟩))
def sp_X8_leave : sm_SP := fun as g K => match as with
  | [.ref p, .int t, .int w, .int d, .int y] => p = 15 ∧ zT g ∧ zO g ∧ hereC g t ∧ nO g < 60 ∧ K none (gS (gA (gA (gA (gA (gA g 19 (upd (rA g 19) (tn t) (sI 0))) 21 (upd (rA g 21) (tn t) w)) 22 (upd (rA g 22) (tn t) d)) 23 (upd (rA g 23) (tn t) y)) 24 (upd (rA g 24) (nO g) t)) 15 810 (nI (nO g + 1)))
  | _ => False
theorem wf_X8_leave : sm_wf lay (yX8_leave, cX8_leave, 5, none) 5 false sp_X8_leave := by
  intro as g K h
  simp only [sp_X8_leave] at h
  split at h
  · exact ⟨Nat.le_of_ble_eq_true rfl, by simp, rfl, fun _ => by obtain rfl := h.1; exact ⟨15, _, 8, [18, 19, 20, 21, 22, 23, 24, 25, 26, 1, 1], TX8, 11, rfl, rfl, rfl⟩⟩
  · exact h.elim
set_option maxHeartbeats 4000000 in
set_option maxRecDepth 100000 in
theorem b_X8_leave : sm_body lay NX8_leave 5 4 (sm_cl [(92, sp_X8_isHere)]) sp_X8_leave := by
  intro K J S hW as g hs
  have hn := n_X8_leave
  have hf := fd_all
  have ha := ar_all
  generalize NX8_leave = N at hn hW
  generalize lay = L at hf ha hW
  obtain ⟨hS, hR⟩ := hW
  simp only [sp_X8_leave] at hs
  split at hs
  case h_2 => exact hs.elim
  simp only [e_args, sm_pad, List.length_cons, List.length_nil, Nat.reduceAdd, Nat.reduceSub, List.replicate_succ, List.replicate_zero, List.cons_append, List.nil_append]
  rename_i p t w d y
  obtain ⟨rfl, z, zo, hh, ho, hs⟩ := hs
  have z2 := z.2
  have hr := hh.1
  simp only [okT] at hr
  apply hR 100
  simp (maxSteps := 10000000) (disch := omega) only [hS, hn, sm_eqs, hf, ha, sm_b0, Int.reduceToNat, ↓reduceIte, Nat.reduceEqDiff, true_and, and_true, List.length_nil, List.length_cons, Nat.reduceAdd, Nat.reduceLeDiff, Nat.zero_le, false_implies, true_implies, not_true_eq_false, not_false_eq_true, implies_true, Nat.reduceSub, Nat.reduceMul, Nat.reduceDiv, reduceCtorEq, tn_clamp, nI_t, tn_nI, nI_add, pk_mul, rS_gS, rS_gA, rS_gL, rA_gS, rA_gA, rA_gL, rL_gS, rL_gA, rL_gL, and_self, and_false, false_and, if_true, if_false, true_or, or_true, or_false, false_or, sm_in, eqI, sI_s, Int32.toInt_zero, Int.natCast_zero, Int.natCast_one, Int.cast_ofNat_Int, Int.reduceEq, Int.reduceLT, Int.reduceLE, Int.reduceNeg, Int.reduceNe, ne_eq, n_up, g_up, e_cat, sp_X8_isHere, z, hh, zo.1]
  clear hn hf ha hS hR
  grind
theorem ok_X8_leave (l : Launch) : sm_spok l lay sm_mt 2 109 sp_X8_leave := Or.inr (Or.inr (Or.inr ⟨by decide, by decide, by
  rw [mt_109]
  exact sm_method (T := TX8_) v_cok v_lok v_ka v_tok_X8 mok_X8_leave rfl (by unfold sm_rk; simp) wf_X8_leave (List.forall_mem_cons.mpr ⟨sm_spok_up (Nat.le_of_ble_eq_true rfl : 1 ≤ 1) (ok_X8_isHere l), fun _ h => absurd h List.not_mem_nil⟩) b_X8_leave⟩))
def sp_X8_goneAt : sm_SP := fun as g K => match as with
  | [.ref p, .int k] => p = 15 ∧ zO g ∧ (0 ≤ k.toInt ∧ k.toInt < nO g → K (some (.int (rA g 24 (tn k)))) g) ∧ (¬ (0 ≤ k.toInt ∧ k.toInt < nO g) → K (some (.int (sI 0))) g)
  | _ => False
theorem wf_X8_goneAt : sm_wf lay (yX8_goneAt, cX8_goneAt, 2, (some .int)) 2 false sp_X8_goneAt := by
  intro as g K h
  simp only [sp_X8_goneAt] at h
  split at h
  · exact ⟨Nat.le_of_ble_eq_true rfl, by simp, rfl, fun _ => by obtain rfl := h.1; exact ⟨15, _, 8, [18, 19, 20, 21, 22, 23, 24, 25, 26, 1, 1], TX8, 11, rfl, rfl, rfl⟩⟩
  · exact h.elim
set_option maxHeartbeats 4000000 in
set_option maxRecDepth 100000 in
theorem b_X8_goneAt : sm_body lay NX8_goneAt 2 0 (sm_cl []) sp_X8_goneAt := by
  intro K J S hW as g hs
  have hn := n_X8_goneAt
  have hf := fd_all
  have ha := ar_all
  generalize NX8_goneAt = N at hn hW
  generalize lay = L at hf ha hW
  obtain ⟨hS, hR⟩ := hW
  simp only [sp_X8_goneAt] at hs
  split at hs
  case h_2 => exact hs.elim
  simp only [e_args, sm_pad, List.length_cons, List.length_nil, Nat.reduceAdd, Nat.reduceSub, List.replicate_succ, List.replicate_zero, List.cons_append, List.nil_append]
  rename_i p k
  obtain ⟨rfl, z, h1, h2⟩ := hs
  have z2 := z.2
  apply hR 40
  simp (maxSteps := 10000000) (disch := omega) only [hS, hn, sm_eqs, hf, ha, sm_b0, Int.reduceToNat, ↓reduceIte, Nat.reduceEqDiff, true_and, and_true, List.length_nil, List.length_cons, Nat.reduceAdd, Nat.reduceLeDiff, Nat.zero_le, false_implies, true_implies, not_true_eq_false, not_false_eq_true, implies_true, Nat.reduceSub, Nat.reduceMul, Nat.reduceDiv, reduceCtorEq, tn_clamp, nI_t, tn_nI, nI_add, pk_mul, rS_gS, rS_gA, rS_gL, rA_gS, rA_gA, rA_gL, rL_gS, rL_gA, rL_gL, and_self, and_false, false_and, if_true, if_false, true_or, or_true, or_false, false_or, sm_in, eqI, sI_s, Int32.toInt_zero, Int.natCast_zero, Int.natCast_one, Int.cast_ofNat_Int, Int.reduceEq, Int.reduceLT, Int.reduceLE, Int.reduceNeg, Int.reduceNe, ne_eq, n_up, g_up, e_cat, z.1]
  clear hn hf ha hS hR
  grind
theorem ok_X8_goneAt (l : Launch) : sm_spok l lay sm_mt 1 111 sp_X8_goneAt := Or.inr (Or.inr (Or.inr ⟨by decide, by decide, by
  rw [mt_111]
  exact sm_method (T := TX8_) v_cok v_lok v_ka v_tok_X8 mok_X8_goneAt rfl (by unfold sm_rk; simp) wf_X8_goneAt (fun _ h => absurd h List.not_mem_nil) b_X8_goneAt⟩))
/-- where a thing is: 0 on the shelf, 1 inside, 2 out -/
def whC (g : sm_G) (t : Nat) : Nat := if (rA g 23 t).toInt = -1 then (if (rA g 19 t).toInt = -1 then 0 else 1) else 2
def sp_X8_countPlaced : sm_SP := fun as g K => match as with
  | [.ref p, .int w] => p = 15 ∧ zT g ∧ K (some (.int (nI (cnt (fun t => (whC g t : Int) == w.toInt) (nT g))))) g
  | _ => False
theorem wf_X8_countPlaced : sm_wf lay (yX8_countPlaced, cX8_countPlaced, 4, (some .int)) 2 false sp_X8_countPlaced := by
  intro as g K h
  simp only [sp_X8_countPlaced] at h
  split at h
  · exact ⟨Nat.le_of_ble_eq_true rfl, by simp, rfl, fun _ => by obtain rfl := h.1; exact ⟨15, _, 8, [18, 19, 20, 21, 22, 23, 24, 25, 26, 1, 1], TX8, 11, rfl, rfl, rfl⟩⟩
  · exact h.elim
set_option maxHeartbeats 4000000 in
set_option maxRecDepth 100000 in
theorem b_X8_countPlaced : sm_body lay NX8_countPlaced 4 0 (sm_cl [(95, sp_X8_whereOf)]) sp_X8_countPlaced := by
  intro K J S hW as g hs
  have hn := n_X8_countPlaced
  have hf := fd_all
  have ha := ar_all
  generalize NX8_countPlaced = N at hn hW
  generalize lay = L at hf ha hW
  obtain ⟨hS, hR⟩ := hW
  simp only [sp_X8_countPlaced] at hs
  split at hs
  case h_2 => exact hs.elim
  simp only [e_args, sm_pad, List.length_cons, List.length_nil, Nat.reduceAdd, Nat.reduceSub, List.replicate_succ, List.replicate_zero, List.cons_append, List.nil_append]
  rename_i p w
  obtain ⟨rfl, z, hs⟩ := hs
  have z2 := z.2
  have loop : ∀ m t c, m = nT g - t → t ≤ nT g → c = cnt (fun t => (whC g t : Int) == w.toInt) t → J 4 [some (.ref 15), some (.int w), some (.int (nI c)), some (.int (nI t))] [] g := by
    intro m
    induction m with
    | zero =>
      intro t c hm ht hc
      obtain rfl : t = nT g := by omega
      have hb := cnt_le (fun t => (whC g t : Int) == w.toInt) (nT g)
      rw [← hc] at hb hs
      apply hR 40
      simp (maxSteps := 10000000) (disch := omega) only [hS, hn, sm_eqs, hf, ha, sm_b0, Int.reduceToNat, ↓reduceIte, Nat.reduceEqDiff, true_and, and_true, List.length_nil, List.length_cons, Nat.reduceAdd, Nat.reduceLeDiff, Nat.zero_le, false_implies, true_implies, not_true_eq_false, not_false_eq_true, implies_true, Nat.reduceSub, Nat.reduceMul, Nat.reduceDiv, reduceCtorEq, tn_clamp, nI_t, tn_nI, nI_add, pk_mul, rS_gS, rS_gA, rS_gL, rA_gS, rA_gA, rA_gL, rL_gS, rL_gA, rL_gL, and_self, and_false, false_and, if_true, if_false, true_or, or_true, or_false, false_or, sm_in, eqI, sI_s, Int32.toInt_zero, Int.natCast_zero, Int.natCast_one, Int.cast_ofNat_Int, Int.reduceEq, Int.reduceLT, Int.reduceLE, Int.reduceNeg, Int.reduceNe, ne_eq, n_up, g_up, e_cat, sp_X8_whereOf, z.1, z]
      clear hn hf ha hS hR
      grind
    | succ m ih =>
      intro t c hm ht hc
      have hb := cnt_le (fun t => (whC g t : Int) == w.toInt) t
      rw [← hc] at hb
      have e1 : ((whC g t : Int) == w.toInt) = true → J 4 [some (.ref 15), some (.int w), some (.int (nI (c + 1))), some (.int (nI (t + 1)))] [] g := fun h => ih (t + 1) (c + 1) (by omega) (by omega) (by simp only [cnt, ← hc, h, if_true])
      have e0 : ¬ ((whC g t : Int) == w.toInt) = true → J 4 [some (.ref 15), some (.int w), some (.int (nI c)), some (.int (nI (t + 1)))] [] g := fun h => ih (t + 1) c (by omega) (by omega) (by simp only [cnt, ← hc, h, if_false, Nat.add_zero]; rfl)
      clear ih hc
      simp only [beq_iff_eq, whC] at e1 e0
      apply hR 40
      simp (maxSteps := 10000000) (disch := omega) only [hS, hn, sm_eqs, hf, ha, sm_b0, Int.reduceToNat, ↓reduceIte, Nat.reduceEqDiff, true_and, and_true, List.length_nil, List.length_cons, Nat.reduceAdd, Nat.reduceLeDiff, Nat.zero_le, false_implies, true_implies, not_true_eq_false, not_false_eq_true, implies_true, Nat.reduceSub, Nat.reduceMul, Nat.reduceDiv, reduceCtorEq, tn_clamp, nI_t, tn_nI, nI_add, pk_mul, rS_gS, rS_gA, rS_gL, rA_gS, rA_gA, rA_gL, rL_gS, rL_gA, rL_gL, and_self, and_false, false_and, if_true, if_false, true_or, or_true, or_false, false_or, sm_in, eqI, sI_s, Int32.toInt_zero, Int.natCast_zero, Int.natCast_one, Int.cast_ofNat_Int, Int.reduceEq, Int.reduceLT, Int.reduceLE, Int.reduceNeg, Int.reduceNe, ne_eq, n_up, g_up, e_cat, sp_X8_whereOf, z.1, z, hereC, okT]
      clear hn hf ha hS hR
      grind
  apply hR 40
  simp (maxSteps := 10000000) (disch := omega) only [hS, hn, sm_eqs, hf, ha, sm_b0, Int.reduceToNat, ↓reduceIte, Nat.reduceEqDiff, true_and, and_true, List.length_nil, List.length_cons, Nat.reduceAdd, Nat.reduceLeDiff, Nat.zero_le, false_implies, true_implies, not_true_eq_false, not_false_eq_true, implies_true, Nat.reduceSub, Nat.reduceMul, Nat.reduceDiv, reduceCtorEq, tn_clamp, nI_t, tn_nI, nI_add, pk_mul, rS_gS, rS_gA, rS_gL, rA_gS, rA_gA, rA_gL, rL_gS, rL_gA, rL_gL, and_self, and_false, false_and, if_true, if_false, true_or, or_true, or_false, false_or, sm_in, eqI, sI_s, Int32.toInt_zero, Int.natCast_zero, Int.natCast_one, Int.cast_ofNat_Int, Int.reduceEq, Int.reduceLT, Int.reduceLE, Int.reduceNeg, Int.reduceNe, ne_eq, n_up, g_up, e_cat, sp_X8_whereOf]
  exact loop _ 0 0 rfl (Nat.zero_le _) rfl
theorem ok_X8_countPlaced (l : Launch) : sm_spok l lay sm_mt 3 112 sp_X8_countPlaced := Or.inr (Or.inr (Or.inr ⟨by decide, by decide, by
  rw [mt_112]
  exact sm_method (T := TX8_) v_cok v_lok v_ka v_tok_X8 mok_X8_countPlaced rfl (by unfold sm_rk; simp) wf_X8_countPlaced (List.forall_mem_cons.mpr ⟨sm_spok_up (Nat.le_of_ble_eq_true rfl : 2 ≤ 2) (ok_X8_whereOf l), fun _ h => absurd h List.not_mem_nil⟩) b_X8_countPlaced⟩))
def sp_X8_countWhy : sm_SP := fun as g K => match as with
  | [.ref p, .int w] => p = 15 ∧ zT g ∧ K (some (.int (nI (cnt (fun t => (rA g 23 t).toInt == w.toInt) (nT g))))) g
  | _ => False
theorem wf_X8_countWhy : sm_wf lay (yX8_countWhy, cX8_countWhy, 4, (some .int)) 2 false sp_X8_countWhy := by
  intro as g K h
  simp only [sp_X8_countWhy] at h
  split at h
  · exact ⟨Nat.le_of_ble_eq_true rfl, by simp, rfl, fun _ => by obtain rfl := h.1; exact ⟨15, _, 8, [18, 19, 20, 21, 22, 23, 24, 25, 26, 1, 1], TX8, 11, rfl, rfl, rfl⟩⟩
  · exact h.elim
set_option maxHeartbeats 4000000 in
set_option maxRecDepth 100000 in
theorem b_X8_countWhy : sm_body lay NX8_countWhy 4 0 (sm_cl []) sp_X8_countWhy := by
  intro K J S hW as g hs
  have hn := n_X8_countWhy
  have hf := fd_all
  have ha := ar_all
  generalize NX8_countWhy = N at hn hW
  generalize lay = L at hf ha hW
  obtain ⟨hS, hR⟩ := hW
  simp only [sp_X8_countWhy] at hs
  split at hs
  case h_2 => exact hs.elim
  simp only [e_args, sm_pad, List.length_cons, List.length_nil, Nat.reduceAdd, Nat.reduceSub, List.replicate_succ, List.replicate_zero, List.cons_append, List.nil_append]
  rename_i p w
  obtain ⟨rfl, z, hs⟩ := hs
  have z2 := z.2
  have loop : ∀ m t c, m = nT g - t → t ≤ nT g → c = cnt (fun t => (rA g 23 t).toInt == w.toInt) t → J 4 [some (.ref 15), some (.int w), some (.int (nI c)), some (.int (nI t))] [] g := by
    intro m
    induction m with
    | zero =>
      intro t c hm ht hc
      obtain rfl : t = nT g := by omega
      have hb := cnt_le (fun t => (rA g 23 t).toInt == w.toInt) (nT g)
      rw [← hc] at hb hs
      apply hR 40
      simp (maxSteps := 10000000) (disch := omega) only [hS, hn, sm_eqs, hf, ha, sm_b0, Int.reduceToNat, ↓reduceIte, Nat.reduceEqDiff, true_and, and_true, List.length_nil, List.length_cons, Nat.reduceAdd, Nat.reduceLeDiff, Nat.zero_le, false_implies, true_implies, not_true_eq_false, not_false_eq_true, implies_true, Nat.reduceSub, Nat.reduceMul, Nat.reduceDiv, reduceCtorEq, tn_clamp, nI_t, tn_nI, nI_add, pk_mul, rS_gS, rS_gA, rS_gL, rA_gS, rA_gA, rA_gL, rL_gS, rL_gA, rL_gL, and_self, and_false, false_and, if_true, if_false, true_or, or_true, or_false, false_or, sm_in, eqI, sI_s, Int32.toInt_zero, Int.natCast_zero, Int.natCast_one, Int.cast_ofNat_Int, Int.reduceEq, Int.reduceLT, Int.reduceLE, Int.reduceNeg, Int.reduceNe, ne_eq, n_up, g_up, e_cat, z.1]
      clear hn hf ha hS hR
      grind
    | succ m ih =>
      intro t c hm ht hc
      have hb := cnt_le (fun t => (rA g 23 t).toInt == w.toInt) t
      rw [← hc] at hb
      have e1 : ((rA g 23 t).toInt == w.toInt) = true → J 4 [some (.ref 15), some (.int w), some (.int (nI (c + 1))), some (.int (nI (t + 1)))] [] g := fun h => ih (t + 1) (c + 1) (by omega) (by omega) (by simp only [cnt, ← hc, h, if_true])
      have e0 : ¬ ((rA g 23 t).toInt == w.toInt) = true → J 4 [some (.ref 15), some (.int w), some (.int (nI c)), some (.int (nI (t + 1)))] [] g := fun h => ih (t + 1) c (by omega) (by omega) (by simp only [cnt, ← hc, h, if_false, Nat.add_zero]; rfl)
      clear ih hc
      simp only [beq_iff_eq] at e1 e0
      apply hR 40
      simp (maxSteps := 10000000) (disch := omega) only [hS, hn, sm_eqs, hf, ha, sm_b0, Int.reduceToNat, ↓reduceIte, Nat.reduceEqDiff, true_and, and_true, List.length_nil, List.length_cons, Nat.reduceAdd, Nat.reduceLeDiff, Nat.zero_le, false_implies, true_implies, not_true_eq_false, not_false_eq_true, implies_true, Nat.reduceSub, Nat.reduceMul, Nat.reduceDiv, reduceCtorEq, tn_clamp, nI_t, tn_nI, nI_add, pk_mul, rS_gS, rS_gA, rS_gL, rA_gS, rA_gA, rA_gL, rL_gS, rL_gA, rL_gL, and_self, and_false, false_and, if_true, if_false, true_or, or_true, or_false, false_or, sm_in, eqI, sI_s, Int32.toInt_zero, Int.natCast_zero, Int.natCast_one, Int.cast_ofNat_Int, Int.reduceEq, Int.reduceLT, Int.reduceLE, Int.reduceNeg, Int.reduceNe, ne_eq, n_up, g_up, e_cat, z.1]
      clear hn hf ha hS hR
      grind
  apply hR 40
  simp (maxSteps := 10000000) (disch := omega) only [hS, hn, sm_eqs, hf, ha, sm_b0, Int.reduceToNat, ↓reduceIte, Nat.reduceEqDiff, true_and, and_true, List.length_nil, List.length_cons, Nat.reduceAdd, Nat.reduceLeDiff, Nat.zero_le, false_implies, true_implies, not_true_eq_false, not_false_eq_true, implies_true, Nat.reduceSub, Nat.reduceMul, Nat.reduceDiv, reduceCtorEq, tn_clamp, nI_t, tn_nI, nI_add, pk_mul, rS_gS, rS_gA, rS_gL, rA_gS, rA_gA, rA_gL, rL_gS, rL_gA, rL_gL, and_self, and_false, false_and, if_true, if_false, true_or, or_true, or_false, false_or, sm_in, eqI, sI_s, Int32.toInt_zero, Int.natCast_zero, Int.natCast_one, Int.cast_ofNat_Int, Int.reduceEq, Int.reduceLT, Int.reduceLE, Int.reduceNeg, Int.reduceNe, ne_eq, n_up, g_up, e_cat]
  exact loop _ 0 0 rfl (Nat.zero_le _) rfl
theorem ok_X8_countWhy (l : Launch) : sm_spok l lay sm_mt 1 113 sp_X8_countWhy := Or.inr (Or.inr (Or.inr ⟨by decide, by decide, by
  rw [mt_113]
  exact sm_method (T := TX8_) v_cok v_lok v_ka v_tok_X8 mok_X8_countWhy rfl (by unfold sm_rk; simp) wf_X8_countWhy (fun _ h => absurd h List.not_mem_nil) b_X8_countWhy⟩))
