/-! The reference: small reads. -/
def mS (g h : sm_G) : Prop := (∀ p k, p ≠ 53 → rS h p k = rS g p k) ∧ (∀ a, a < 53 ∨ 85 ≤ a → rA h a = rA g a) ∧ (∀ a, a < 53 ∨ 85 ≤ a → rL h a = rL g a)
theorem mS_rf (g : sm_G) : mS g g := ⟨fun _ _ _ => rfl, fun _ _ => rfl, fun _ _ => rfl⟩
theorem mS_A {g h : sm_G} {k : Nat} {f : Nat → Int32} (e : mS g h) (hk : 53 ≤ k ∧ k < 85) : mS g (gA h k f) :=
  ⟨e.1, fun a ha => by rw [rA_gA, if_neg (by omega)]; exact e.2.1 a ha, e.2.2⟩
theorem mS_L {g h : sm_G} {k : Nat} {f : Nat → Int64} (e : mS g h) (hk : 53 ≤ k ∧ k < 85) : mS g (gL h k f) :=
  ⟨e.1, e.2.1, fun a ha => by rw [rL_gL, if_neg (by omega)]; exact e.2.2 a ha⟩
theorem mS_S {g h : sm_G} {k : Nat} {v : Int32} (e : mS g h) : mS g (gS h 53 k v) :=
  ⟨fun q d hq => by rw [rS_gS, if_neg (by omega)]; exact e.1 q d hq, e.2.1, e.2.2⟩
theorem whC_c (c : sm_G) (t : Nat) : whC c t ≤ 2 ∧ (whC c t = 2 ↔ whyC c t ≠ -1) ∧ (whC c t = 0 ↔ whyC c t = -1 ∧ bgC c t = -1) ∧ (whC c t = 1 ↔ whyC c t = -1 ∧ bgC c t ≠ -1) := by
  unfold whC whyC bgC
  by_cases h1 : (rA c 23 t).toInt = -1
  · rw [if_pos h1]
    by_cases h2 : (rA c 19 t).toInt = -1
    · rw [if_pos h2]; simp [h1, h2]
    · rw [if_neg h2]; simp [h1, h2]
  · rw [if_neg h1]; simp [h1]
def sp_X10_isOut (c : sm_G) : sm_SP := fun as g K => match as with
  | [.ref p, .int t] => p = 53 ∧ CP c g ∧ okT c t ∧ (whyC c (tn t) ≠ -1 → K (some (.int (nI 1))) g) ∧ (whyC c (tn t) = -1 → K (some (.int (nI 0))) g)
  | _ => False
theorem wf_X10_isOut (c : sm_G) : sm_wf lay (yX10_isOut, cX10_isOut, 2, (some .boolean)) 2 false (sp_X10_isOut c) := by
  intro as g K h
  simp only [sp_X10_isOut] at h
  split at h
  · exact ⟨Nat.le_of_ble_eq_true rfl, by simp, rfl, fun _ => by obtain rfl := h.1; exact ⟨53, _, 10, [1, 1, 56, 57, 58, 59, 60, 61, 1, 1, 62, 63, 64, 65, 66, 67, 68, 69, 70, 71, 72, 73, 1, 74, 75, 76, 77, 1, 1, 78, 79, 1, 80, 1, 81, 1, 82, 83, 84, 85, 86, 1], TX10, 42, rfl, rfl, rfl⟩⟩
  · exact h.elim
set_option maxHeartbeats 4000000 in
set_option maxRecDepth 100000 in
theorem b_X10_isOut (c : sm_G) : sm_body lay NX10_isOut 2 1 (sm_cl []) (sp_X10_isOut c) := by
  intro K J S hW as g hs
  have hn := n_X10_isOut
  have hf := fd_all
  have ha := ar_all
  generalize NX10_isOut = N at hn hW
  generalize lay = L at hf ha hW
  obtain ⟨hS, hR⟩ := hW
  simp only [sp_X10_isOut] at hs
  split at hs
  case h_2 => exact hs.elim
  simp only [e_args, sm_pad, List.length_cons, List.length_nil, Nat.reduceAdd, Nat.reduceSub, List.replicate_succ, List.replicate_zero, List.cons_append, List.nil_append]
  rename_i p t
  obtain ⟨rfl, h, ht, h1, h2⟩ := hs
  have hn2 := CP_n h
  obtain ⟨t, ht2, rfl⟩ := ok_nI ht
  rw [tn_nI (by omega)] at h1 h2
  have hq := h.2.2.2.1.2.2.2.2.2.1 t ht2
  obtain ⟨w1, w2, w3, w4⟩ := whC_c c t
  apply hR 20
  simp (maxSteps := 10000000) (disch := omega) only [hS, hn, sm_eqs, hf, ha, sm_b0, Int.reduceToNat, ↓reduceIte, Nat.reduceEqDiff, true_and, and_true, List.length_nil, List.length_cons, Nat.reduceAdd, Nat.reduceLeDiff, Nat.zero_le, false_implies, true_implies, not_true_eq_false, not_false_eq_true, implies_true, Nat.reduceSub, Nat.reduceMul, Nat.reduceDiv, reduceCtorEq, tn_clamp, nI_t, tn_nI, nI_add, pk_mul, rS_gS, rS_gA, rS_gL, rA_gS, rA_gA, rA_gL, rL_gS, rL_gA, rL_gL, and_self, and_false, false_and, if_true, if_false, true_or, or_true, or_false, false_or, sm_in, eqI, sI_s, Int32.toInt_zero, Int.natCast_zero, Int.natCast_one, Int.cast_ofNat_Int, Int.reduceEq, Int.reduceLT, Int.reduceLE, Int.reduceNeg, Int.reduceNe, ne_eq, n_up, g_up, e_cat, fr_A, fr_O, fr_P, fr_L, hq]
  clear hn hf ha hS hR
  have e : ((whC c t : Int) = 2) ↔ whyC c t ≠ -1 := by rw [← w2]; omega
  grind
theorem ok_X10_isOut (l : Launch) (c : sm_G) : sm_spok l lay sm_mt 1 170 (sp_X10_isOut c) := Or.inr (Or.inr (Or.inr ⟨by decide, by decide, by
  rw [mt_170]
  exact sm_method (T := TX10_) v_cok v_lok v_ka v_tok_X10 mok_X10_isOut rfl (by unfold sm_rk; simp) (wf_X10_isOut c) (fun _ h => absurd h List.not_mem_nil) (b_X10_isOut c)⟩))
def sp_X10_isBag (c : sm_G) : sm_SP := fun as g K => match as with
  | [.ref p, .int t] => p = 53 ∧ CP c g ∧ (hereC c t ∧ (rA c 16 (tn t)).toInt = 1 → K (some (.int (nI 1))) g) ∧ (¬ (hereC c t ∧ (rA c 16 (tn t)).toInt = 1) → K (some (.int (nI 0))) g)
  | _ => False
theorem wf_X10_isBag (c : sm_G) : sm_wf lay (yX10_isBag, cX10_isBag, 2, (some .boolean)) 2 false (sp_X10_isBag c) := by
  intro as g K h
  simp only [sp_X10_isBag] at h
  split at h
  · exact ⟨Nat.le_of_ble_eq_true rfl, by simp, rfl, fun _ => by obtain rfl := h.1; exact ⟨53, _, 10, [1, 1, 56, 57, 58, 59, 60, 61, 1, 1, 62, 63, 64, 65, 66, 67, 68, 69, 70, 71, 72, 73, 1, 74, 75, 76, 77, 1, 1, 78, 79, 1, 80, 1, 81, 1, 82, 83, 84, 85, 86, 1], TX10, 42, rfl, rfl, rfl⟩⟩
  · exact h.elim
set_option maxHeartbeats 4000000 in
set_option maxRecDepth 100000 in
theorem b_X10_isBag (c : sm_G) : sm_body lay NX10_isBag 2 1 (sm_cl [(168, sp_X10_isThing c), (170, sp_X10_isOut c)]) (sp_X10_isBag c) := by
  intro K J S hW as g hs
  have hn := n_X10_isBag
  have hf := fd_all
  have ha := ar_all
  generalize NX10_isBag = N at hn hW
  generalize lay = L at hf ha hW
  obtain ⟨hS, hR⟩ := hW
  simp only [sp_X10_isBag] at hs
  split at hs
  case h_2 => exact hs.elim
  simp only [e_args, sm_pad, List.length_cons, List.length_nil, Nat.reduceAdd, Nat.reduceSub, List.replicate_succ, List.replicate_zero, List.cons_append, List.nil_append]
  rename_i p t
  obtain ⟨rfl, h, h1, h2⟩ := hs
  have hn2 := CP_n h
  have hh : hereC c t = (okT c t ∧ whyC c (tn t) = -1) := rfl
  rw [hh] at h1 h2
  by_cases ho : okT c t
  · obtain ⟨t, ht2, rfl⟩ := ok_nI ho
    rw [tn_nI (by omega)] at h1 h2
    have hq := h.2.2.2.1.2.2.1 t ht2
    apply hR 40
    simp (maxSteps := 10000000) (disch := omega) only [hS, hn, sm_eqs, hf, ha, sm_b0, Int.reduceToNat, ↓reduceIte, Nat.reduceEqDiff, true_and, and_true, List.length_nil, List.length_cons, Nat.reduceAdd, Nat.reduceLeDiff, Nat.zero_le, false_implies, true_implies, not_true_eq_false, not_false_eq_true, implies_true, Nat.reduceSub, Nat.reduceMul, Nat.reduceDiv, reduceCtorEq, tn_clamp, nI_t, tn_nI, nI_add, pk_mul, rS_gS, rS_gA, rS_gL, rA_gS, rA_gA, rA_gL, rL_gS, rL_gA, rL_gL, and_self, and_false, false_and, if_true, if_false, true_or, or_true, or_false, false_or, sm_in, eqI, sI_s, Int32.toInt_zero, Int.natCast_zero, Int.natCast_one, Int.cast_ofNat_Int, Int.reduceEq, Int.reduceLT, Int.reduceLE, Int.reduceNeg, Int.reduceNe, ne_eq, n_up, g_up, e_cat, fr_A, fr_O, fr_P, fr_L, sp_X10_isThing, sp_X10_isOut, h, ho, hq]
    clear hn hf ha hS hR
    repeat' (first | (with_reducible refine And.intro ?_ ?_) | (with_reducible intro _))
    all_goals (first | with_reducible assumption | omega | (exfalso; omega) | grind)
  · have h2 := h2 (fun h => ho h.1.1)
    apply hR 40
    simp (maxSteps := 10000000) (disch := omega) only [hS, hn, sm_eqs, hf, ha, sm_b0, Int.reduceToNat, ↓reduceIte, Nat.reduceEqDiff, true_and, and_true, List.length_nil, List.length_cons, Nat.reduceAdd, Nat.reduceLeDiff, Nat.zero_le, false_implies, true_implies, not_true_eq_false, not_false_eq_true, implies_true, Nat.reduceSub, Nat.reduceMul, Nat.reduceDiv, reduceCtorEq, tn_clamp, nI_t, tn_nI, nI_add, pk_mul, rS_gS, rS_gA, rS_gL, rA_gS, rA_gA, rA_gL, rL_gS, rL_gA, rL_gL, and_self, and_false, false_and, if_true, if_false, true_or, or_true, or_false, false_or, sm_in, eqI, sI_s, Int32.toInt_zero, Int.natCast_zero, Int.natCast_one, Int.cast_ofNat_Int, Int.reduceEq, Int.reduceLT, Int.reduceLE, Int.reduceNeg, Int.reduceNe, ne_eq, n_up, g_up, e_cat, fr_A, fr_O, fr_P, fr_L, sp_X10_isThing, sp_X10_isOut, h, ho]
    exact h2
theorem ok_X10_isBag (l : Launch) (c : sm_G) : sm_spok l lay sm_mt 3 171 (sp_X10_isBag c) := Or.inr (Or.inr (Or.inr ⟨by decide, by decide, by
  rw [mt_171]
  exact sm_method (T := TX10_) v_cok v_lok v_ka v_tok_X10 mok_X10_isBag rfl (by unfold sm_rk; simp) (wf_X10_isBag c) (List.forall_mem_cons.mpr ⟨sm_spok_up (Nat.le_of_ble_eq_true rfl : 2 ≤ 2) (ok_X10_isThing l c), List.forall_mem_cons.mpr ⟨sm_spok_up (Nat.le_of_ble_eq_true rfl : 1 ≤ 2) (ok_X10_isOut l c), fun _ h => absurd h List.not_mem_nil⟩⟩) (b_X10_isBag c)⟩))
def sp_X10_isAnswer (c : sm_G) : sm_SP := fun as g K => match as with
  | [.ref p, .int q, .int a] => p = 53 ∧ CP c g ∧ okQ c q ∧ (vAns (rA c 2 (tn q)) (rA c 3 (tn q)) a → K (some (.int (nI 1))) g) ∧ (¬ vAns (rA c 2 (tn q)) (rA c 3 (tn q)) a → K (some (.int (nI 0))) g)
  | _ => False
theorem wf_X10_isAnswer (c : sm_G) : sm_wf lay (yX10_isAnswer, cX10_isAnswer, 3, (some .boolean)) 3 false (sp_X10_isAnswer c) := by
  intro as g K h
  simp only [sp_X10_isAnswer] at h
  split at h
  · exact ⟨Nat.le_of_ble_eq_true rfl, by simp, rfl, fun _ => by obtain rfl := h.1; exact ⟨53, _, 10, [1, 1, 56, 57, 58, 59, 60, 61, 1, 1, 62, 63, 64, 65, 66, 67, 68, 69, 70, 71, 72, 73, 1, 74, 75, 76, 77, 1, 1, 78, 79, 1, 80, 1, 81, 1, 82, 83, 84, 85, 86, 1], TX10, 42, rfl, rfl, rfl⟩⟩
  · exact h.elim
set_option maxHeartbeats 4000000 in
set_option maxRecDepth 100000 in
theorem b_X10_isAnswer (c : sm_G) : sm_body lay NX10_isAnswer 3 1 (sm_cl [(161, sp_X10_in)]) (sp_X10_isAnswer c) := by
  intro K J S hW as g hs
  have hn := n_X10_isAnswer
  have hf := fd_all
  have ha := ar_all
  generalize NX10_isAnswer = N at hn hW
  generalize lay = L at hf ha hW
  obtain ⟨hS, hR⟩ := hW
  simp only [sp_X10_isAnswer] at hs
  split at hs
  case h_2 => exact hs.elim
  simp only [e_args, sm_pad, List.length_cons, List.length_nil, Nat.reduceAdd, Nat.reduceSub, List.replicate_succ, List.replicate_zero, List.cons_append, List.nil_append]
  rename_i p q a
  obtain ⟨rfl, h, hq0, h1, h2⟩ := hs
  have hn2 := CP_n h
  obtain ⟨q, hq2, rfl⟩ := ok_nI hq0
  rw [tn_nI (by omega)] at h1 h2
  have e54 := h.2.1.2.1 q hq2
  have e55 := h.2.1.2.2.1 q hq2
  have hv := (h.1.1.2 q hq2).1
  unfold vAns at h1 h2
  have em : (rA c 2 q).toInt = 0 → (rA c 3 q - nI 1).toInt = (rA c 3 q).toInt - 1 := fun e => by
    rw [Int32.toInt_sub, show (nI 1).toInt = 1 from rfl, Int.bmod_eq_of_le (by omega) (by omega)]
  apply hR 60
  simp (maxSteps := 10000000) (disch := omega) only [hS, hn, sm_eqs, hf, ha, sm_b0, Int.reduceToNat, ↓reduceIte, Nat.reduceEqDiff, true_and, and_true, List.length_nil, List.length_cons, Nat.reduceAdd, Nat.reduceLeDiff, Nat.zero_le, false_implies, true_implies, not_true_eq_false, not_false_eq_true, implies_true, Nat.reduceSub, Nat.reduceMul, Nat.reduceDiv, reduceCtorEq, tn_clamp, nI_t, tn_nI, nI_add, pk_mul, rS_gS, rS_gA, rS_gL, rA_gS, rA_gA, rA_gL, rL_gS, rL_gA, rL_gL, and_self, and_false, false_and, if_true, if_false, true_or, or_true, or_false, false_or, sm_in, eqI, sI_s, Int32.toInt_zero, Int.natCast_zero, Int.natCast_one, Int.cast_ofNat_Int, Int.reduceEq, Int.reduceLT, Int.reduceLE, Int.reduceNeg, Int.reduceNe, ne_eq, n_up, g_up, e_cat, fr_A, fr_O, fr_P, fr_L, sp_X10_in, e54, e55]
  clear hn hf ha hS hR
  repeat' (first | (with_reducible refine And.intro ?_ ?_) | (with_reducible intro _))
  all_goals (first | with_reducible assumption | omega | (exfalso; omega) | grind)
theorem ok_X10_isAnswer (l : Launch) (c : sm_G) : sm_spok l lay sm_mt 2 164 (sp_X10_isAnswer c) := Or.inr (Or.inr (Or.inr ⟨by decide, by decide, by
  rw [mt_164]
  exact sm_method (T := TX10_) v_cok v_lok v_ka v_tok_X10 mok_X10_isAnswer rfl (by unfold sm_rk; simp) (wf_X10_isAnswer c) (List.forall_mem_cons.mpr ⟨sm_spok_up (Nat.le_of_ble_eq_true rfl : 1 ≤ 1) (ok_X10_in l), fun _ h => absurd h List.not_mem_nil⟩) (b_X10_isAnswer c)⟩))
def sp_X10_knows : sm_SP := fun as g K => match as with
  | [.ref p, .int x, .int q] => p = 53 ∧ sm_in x 120 ∧ sm_in q 16 ∧ K (some (.int (rA g 58 (16 * tn x + tn q)))) g
  | _ => False
theorem wf_X10_knows : sm_wf lay (yX10_knows, cX10_knows, 3, (some .int)) 3 false sp_X10_knows := by
  intro as g K h
  simp only [sp_X10_knows] at h
  split at h
  · exact ⟨Nat.le_of_ble_eq_true rfl, by simp, rfl, fun _ => by obtain rfl := h.1; exact ⟨53, _, 10, [1, 1, 56, 57, 58, 59, 60, 61, 1, 1, 62, 63, 64, 65, 66, 67, 68, 69, 70, 71, 72, 73, 1, 74, 75, 76, 77, 1, 1, 78, 79, 1, 80, 1, 81, 1, 82, 83, 84, 85, 86, 1], TX10, 42, rfl, rfl, rfl⟩⟩
  · exact h.elim
set_option maxHeartbeats 4000000 in
set_option maxRecDepth 100000 in
theorem b_X10_knows : sm_body lay NX10_knows 3 0 (sm_cl []) sp_X10_knows := by
  intro K J S hW as g hs
  have hn := n_X10_knows
  have hf := fd_all
  have ha := ar_all
  generalize NX10_knows = N at hn hW
  generalize lay = L at hf ha hW
  obtain ⟨hS, hR⟩ := hW
  simp only [sp_X10_knows] at hs
  split at hs
  case h_2 => exact hs.elim
  simp only [e_args, sm_pad, List.length_cons, List.length_nil, Nat.reduceAdd, Nat.reduceSub, List.replicate_succ, List.replicate_zero, List.cons_append, List.nil_append]
  rename_i p x q
  obtain ⟨rfl, hx, hq, hs⟩ := hs
  obtain ⟨x, hx2, rfl⟩ := sm_in_nI hx
  obtain ⟨q, hq2, rfl⟩ := sm_in_nI hq
  simp (disch := omega) only [tn_nI] at hs
  apply hR 20
  simp (maxSteps := 10000000) (disch := omega) only [hS, hn, sm_eqs, hf, ha, sm_b0, Int.reduceToNat, ↓reduceIte, Nat.reduceEqDiff, true_and, and_true, List.length_nil, List.length_cons, Nat.reduceAdd, Nat.reduceLeDiff, Nat.zero_le, false_implies, true_implies, not_true_eq_false, not_false_eq_true, implies_true, Nat.reduceSub, Nat.reduceMul, Nat.reduceDiv, reduceCtorEq, tn_clamp, nI_t, tn_nI, nI_add, pk_mul, rS_gS, rS_gA, rS_gL, rA_gS, rA_gA, rA_gL, rL_gS, rL_gA, rL_gL, and_self, and_false, false_and, if_true, if_false, true_or, or_true, or_false, false_or, sm_in, eqI, sI_s, Int32.toInt_zero, Int.natCast_zero, Int.natCast_one, Int.cast_ofNat_Int, Int.reduceEq, Int.reduceLT, Int.reduceLE, Int.reduceNeg, Int.reduceNe, ne_eq, n_up, g_up, e_cat, fr_A, fr_O, fr_P, fr_L]
  repeat' (first | (refine And.intro ?_ ?_) | (intro _))
  all_goals (first | with_reducible assumption | omega | (exfalso; omega))
theorem ok_X10_knows (l : Launch) : sm_spok l lay sm_mt 1 177 sp_X10_knows := Or.inr (Or.inr (Or.inr ⟨by decide, by decide, by
  rw [mt_177]
  exact sm_method (T := TX10_) v_cok v_lok v_ka v_tok_X10 mok_X10_knows rfl (by unfold sm_rk; simp) wf_X10_knows (fun _ h => absurd h List.not_mem_nil) b_X10_knows⟩))
def sp_X10_rowOf (c : sm_G) : sm_SP := fun as g K => match as with
  | [.ref p, .int b, .int x] => p = 53 ∧ CP c g ∧ (isX c b x → K (some (.int (nI (if b.toInt = 0 then tn x else 60 + tn x)))) g) ∧ (¬ isX c b x → K (some (.int (sI 0))) g)
  | _ => False
theorem wf_X10_rowOf (c : sm_G) : sm_wf lay (yX10_rowOf, cX10_rowOf, 3, (some .int)) 3 false (sp_X10_rowOf c) := by
  intro as g K h
  simp only [sp_X10_rowOf] at h
  split at h
  · exact ⟨Nat.le_of_ble_eq_true rfl, by simp, rfl, fun _ => by obtain rfl := h.1; exact ⟨53, _, 10, [1, 1, 56, 57, 58, 59, 60, 61, 1, 1, 62, 63, 64, 65, 66, 67, 68, 69, 70, 71, 72, 73, 1, 74, 75, 76, 77, 1, 1, 78, 79, 1, 80, 1, 81, 1, 82, 83, 84, 85, 86, 1], TX10, 42, rfl, rfl, rfl⟩⟩
  · exact h.elim
set_option maxHeartbeats 4000000 in
set_option maxRecDepth 100000 in
theorem b_X10_rowOf (c : sm_G) : sm_body lay NX10_rowOf 3 0 (sm_cl [(169, sp_X10_isReport c), (168, sp_X10_isThing c)]) (sp_X10_rowOf c) := by
  intro K J S hW as g hs
  have hn := n_X10_rowOf
  have hf := fd_all
  have ha := ar_all
  generalize NX10_rowOf = N at hn hW
  generalize lay = L at hf ha hW
  obtain ⟨hS, hR⟩ := hW
  simp only [sp_X10_rowOf] at hs
  split at hs
  case h_2 => exact hs.elim
  simp only [e_args, sm_pad, List.length_cons, List.length_nil, Nat.reduceAdd, Nat.reduceSub, List.replicate_succ, List.replicate_zero, List.cons_append, List.nil_append]
  rename_i p b x
  obtain ⟨rfl, h, h1, h2⟩ := hs
  have hn2 := CP_n h
  have ex : isX c b x → x = nI (tn x) := fun hx => by
    refine nI_tn ?_
    unfold isX okR okT at hx
    by_cases e : b.toInt = 0
    · exact (hx.2 e).1
    · exact (hx.1 e).1
  unfold isX at h1 h2 ex
  by_cases e : b.toInt = 0
  · simp only [e, if_true, not_true_eq_false, false_implies, true_and, true_implies, ne_eq] at h1 h2 ex
    have h1 : okT c x → K (some (.int x)) g := fun hx => by rw [ex hx]; exact h1 hx
    apply hR 20
    simp (maxSteps := 10000000) (disch := omega) only [hS, hn, sm_eqs, hf, ha, sm_b0, Int.reduceToNat, ↓reduceIte, Nat.reduceEqDiff, true_and, and_true, List.length_nil, List.length_cons, Nat.reduceAdd, Nat.reduceLeDiff, Nat.zero_le, false_implies, true_implies, not_true_eq_false, not_false_eq_true, implies_true, Nat.reduceSub, Nat.reduceMul, Nat.reduceDiv, reduceCtorEq, tn_clamp, nI_t, tn_nI, nI_add, pk_mul, rS_gS, rS_gA, rS_gL, rA_gS, rA_gA, rA_gL, rL_gS, rL_gA, rL_gL, and_self, and_false, false_and, if_true, if_false, true_or, or_true, or_false, false_or, sm_in, eqI, sI_s, Int32.toInt_zero, Int.natCast_zero, Int.natCast_one, Int.cast_ofNat_Int, Int.reduceEq, Int.reduceLT, Int.reduceLE, Int.reduceNeg, Int.reduceNe, ne_eq, n_up, g_up, e_cat, fr_A, fr_O, fr_P, fr_L, sp_X10_isReport, sp_X10_isThing, h, e]
    clear hn hf ha hS hR
    repeat' (first | (with_reducible refine And.intro ?_ ?_) | (with_reducible intro _))
    all_goals (first | with_reducible assumption | omega | (exfalso; omega) | grind)
  · simp only [e, if_false, not_false_eq_true, false_implies, and_true, true_implies, ne_eq] at h1 h2 ex
    have h1 : okR c x → K (some (.int (nI 60 + x))) g := fun hx => by
      have := h1 hx
      rw [← nI_add, ← ex hx] at this; exact this
    apply hR 20
    simp (maxSteps := 10000000) (disch := omega) only [hS, hn, sm_eqs, hf, ha, sm_b0, Int.reduceToNat, ↓reduceIte, Nat.reduceEqDiff, true_and, and_true, List.length_nil, List.length_cons, Nat.reduceAdd, Nat.reduceLeDiff, Nat.zero_le, false_implies, true_implies, not_true_eq_false, not_false_eq_true, implies_true, Nat.reduceSub, Nat.reduceMul, Nat.reduceDiv, reduceCtorEq, tn_clamp, nI_t, tn_nI, nI_add, pk_mul, rS_gS, rS_gA, rS_gL, rA_gS, rA_gA, rA_gL, rL_gS, rL_gA, rL_gL, and_self, and_false, false_and, if_true, if_false, true_or, or_true, or_false, false_or, sm_in, eqI, sI_s, Int32.toInt_zero, Int.natCast_zero, Int.natCast_one, Int.cast_ofNat_Int, Int.reduceEq, Int.reduceLT, Int.reduceLE, Int.reduceNeg, Int.reduceNe, ne_eq, n_up, g_up, e_cat, fr_A, fr_O, fr_P, fr_L, sp_X10_isReport, sp_X10_isThing, h, e]
    clear hn hf ha hS hR
    repeat' (first | (with_reducible refine And.intro ?_ ?_) | (with_reducible intro _))
    all_goals (first | with_reducible assumption | omega | (exfalso; omega) | grind)
theorem ok_X10_rowOf (l : Launch) (c : sm_G) : sm_spok l lay sm_mt 3 174 (sp_X10_rowOf c) := Or.inr (Or.inr (Or.inr ⟨by decide, by decide, by
  rw [mt_174]
  exact sm_method (T := TX10_) v_cok v_lok v_ka v_tok_X10 mok_X10_rowOf rfl (by unfold sm_rk; simp) (wf_X10_rowOf c) (List.forall_mem_cons.mpr ⟨sm_spok_up (Nat.le_of_ble_eq_true rfl : 2 ≤ 2) (ok_X10_isReport l c), List.forall_mem_cons.mpr ⟨sm_spok_up (Nat.le_of_ble_eq_true rfl : 2 ≤ 2) (ok_X10_isThing l c), fun _ h => absurd h List.not_mem_nil⟩⟩) (b_X10_rowOf c)⟩))
def sp_X10_known (c : sm_G) : sm_SP := fun as g K => match as with
  | [.ref p, .int b, .int x, .int q] => p = 53 ∧ CP c g ∧ (∀ h, mS g h → CP c h → (isX c b x → K (some (.int (aC c (rwP b) x q))) h) ∧ (¬ isX c b x → K (some (.int (sI 0))) h))
  | _ => False
theorem wf_X10_known (c : sm_G) : sm_wf lay (yX10_known, cX10_known, 5, (some .int)) 4 false (sp_X10_known c) := by
  intro as g K h
  simp only [sp_X10_known] at h
  split at h
  · exact ⟨Nat.le_of_ble_eq_true rfl, by simp, rfl, fun _ => by obtain rfl := h.1; exact ⟨53, _, 10, [1, 1, 56, 57, 58, 59, 60, 61, 1, 1, 62, 63, 64, 65, 66, 67, 68, 69, 70, 71, 72, 73, 1, 74, 75, 76, 77, 1, 1, 78, 79, 1, 80, 1, 81, 1, 82, 83, 84, 85, 86, 1], TX10, 42, rfl, rfl, rfl⟩⟩
  · exact h.elim
set_option maxHeartbeats 4000000 in
set_option maxRecDepth 100000 in
theorem b_X10_known (c : sm_G) : sm_body lay NX10_known 5 0 (sm_cl [(174, sp_X10_rowOf c), (163, sp_X10_isQuestion c), (177, sp_X10_knows)]) (sp_X10_known c) := by
  intro K J S hW as g hs
  have hn := n_X10_known
  have hf := fd_all
  have ha := ar_all
  generalize NX10_known = N at hn hW
  generalize lay = L at hf ha hW
  obtain ⟨hS, hR⟩ := hW
  simp only [sp_X10_known] at hs
  split at hs
  case h_2 => exact hs.elim
  simp only [e_args, sm_pad, List.length_cons, List.length_nil, Nat.reduceAdd, Nat.reduceSub, List.replicate_succ, List.replicate_zero, List.cons_append, List.nil_append]
  rename_i p b x q
  obtain ⟨rfl, h, hs⟩ := hs
  have hn2 := CP_n h
  obtain ⟨h1, h2⟩ := hs (gS g 53 1000 (nI 0)) (mS_S (mS_rf g)) h
  have z1 := h.1.2.1.2.2.2.2.1
  have z2 := h.1.2.2.1.1
  by_cases hx : isX c b x
  · have h1 := h1 hx
    have hx60 := isX_60 z1 z2 hx
    obtain ⟨x, hx2, rfl⟩ := sm_in_nI hx60
    by_cases hq : okQ c q
    · obtain ⟨q, hq2, rfl⟩ := ok_nI hq
      rw [aC_nI _ _ hx2 (by omega)] at h1
      have e6 := h.2.2.1.2.1 x q hx2 (by omega)
      have e9 := h.2.2.1.2.2.1 x q hx2 (by omega)
      clear h2
      by_cases e : b.toInt = 0
      · simp only [rwP, e, if_true] at h1
        apply hR 40
        simp (maxSteps := 10000000) (disch := omega) only [hS, hn, sm_eqs, hf, ha, sm_b0, Int.reduceToNat, ↓reduceIte, Nat.reduceEqDiff, true_and, and_true, List.length_nil, List.length_cons, Nat.reduceAdd, Nat.reduceLeDiff, Nat.zero_le, false_implies, true_implies, not_true_eq_false, not_false_eq_true, implies_true, Nat.reduceSub, Nat.reduceMul, Nat.reduceDiv, reduceCtorEq, tn_clamp, nI_t, tn_nI, nI_add, pk_mul, rS_gS, rS_gA, rS_gL, rA_gS, rA_gA, rA_gL, rL_gS, rL_gA, rL_gL, and_self, and_false, false_and, if_true, if_false, true_or, or_true, or_false, false_or, sm_in, eqI, sI_s, Int32.toInt_zero, Int.natCast_zero, Int.natCast_one, Int.cast_ofNat_Int, Int.reduceEq, Int.reduceLT, Int.reduceLE, Int.reduceNeg, Int.reduceNe, ne_eq, n_up, g_up, e_cat, fr_A, fr_O, fr_P, fr_L, sp_X10_rowOf, sp_X10_isQuestion, sp_X10_knows, h, cp_fr, hx, hq, e, e9]
        repeat' (first | (refine And.intro ?_ ?_) | (intro _))
        all_goals (first | with_reducible assumption | omega | (exfalso; omega))
      · simp only [rwP, e, if_false] at h1
        apply hR 40
        simp (maxSteps := 10000000) (disch := omega) only [hS, hn, sm_eqs, hf, ha, sm_b0, Int.reduceToNat, ↓reduceIte, Nat.reduceEqDiff, true_and, and_true, List.length_nil, List.length_cons, Nat.reduceAdd, Nat.reduceLeDiff, Nat.zero_le, false_implies, true_implies, not_true_eq_false, not_false_eq_true, implies_true, Nat.reduceSub, Nat.reduceMul, Nat.reduceDiv, reduceCtorEq, tn_clamp, nI_t, tn_nI, nI_add, pk_mul, rS_gS, rS_gA, rS_gL, rA_gS, rA_gA, rA_gL, rL_gS, rL_gA, rL_gL, and_self, and_false, false_and, if_true, if_false, true_or, or_true, or_false, false_or, sm_in, eqI, sI_s, Int32.toInt_zero, Int.natCast_zero, Int.natCast_one, Int.cast_ofNat_Int, Int.reduceEq, Int.reduceLT, Int.reduceLE, Int.reduceNeg, Int.reduceNe, ne_eq, n_up, g_up, e_cat, fr_A, fr_O, fr_P, fr_L, sp_X10_rowOf, sp_X10_isQuestion, sp_X10_knows, h, cp_fr, hx, hq, e, e6]
        repeat' (first | (refine And.intro ?_ ?_) | (intro _))
        all_goals (first | with_reducible assumption | omega | (exfalso; omega))
    · have e : aC c (rwP b) (nI x) q = sI 0 := by
        have hl : ∀ p, p = 6 ∨ p = 9 → wL c p := fun p hp => by
          rcases hp with rfl | rfl
          · exact h.1.2.1.1
          · exact h.1.2.1.2.1
        have hl := hl (rwP b) (by rcases rwP_or b with e | e <;> omega) x hx2
        unfold aC
        rw [if_neg]
        intro hc
        rw [tn_nI (by omega)] at hc
        have := (hl.2.2 _ hc.2.2.2.2).1
        exact hq ⟨hc.2.2.1, by unfold tn at this; omega⟩
      rw [e] at h1
      by_cases e2 : b.toInt = 0
      · apply hR 40
        simp (maxSteps := 10000000) (disch := omega) only [hS, hn, sm_eqs, hf, ha, sm_b0, Int.reduceToNat, ↓reduceIte, Nat.reduceEqDiff, true_and, and_true, List.length_nil, List.length_cons, Nat.reduceAdd, Nat.reduceLeDiff, Nat.zero_le, false_implies, true_implies, not_true_eq_false, not_false_eq_true, implies_true, Nat.reduceSub, Nat.reduceMul, Nat.reduceDiv, reduceCtorEq, tn_clamp, nI_t, tn_nI, nI_add, pk_mul, rS_gS, rS_gA, rS_gL, rA_gS, rA_gA, rA_gL, rL_gS, rL_gA, rL_gL, and_self, and_false, false_and, if_true, if_false, true_or, or_true, or_false, false_or, sm_in, eqI, sI_s, Int32.toInt_zero, Int.natCast_zero, Int.natCast_one, Int.cast_ofNat_Int, Int.reduceEq, Int.reduceLT, Int.reduceLE, Int.reduceNeg, Int.reduceNe, ne_eq, n_up, g_up, e_cat, fr_A, fr_O, fr_P, fr_L, sp_X10_rowOf, sp_X10_isQuestion, sp_X10_knows, h, cp_fr, hx, hq, e2]
        repeat' (first | (refine And.intro ?_ ?_) | (intro _))
        all_goals (first | with_reducible assumption | omega | (exfalso; omega))
      · apply hR 40
        simp (maxSteps := 10000000) (disch := omega) only [hS, hn, sm_eqs, hf, ha, sm_b0, Int.reduceToNat, ↓reduceIte, Nat.reduceEqDiff, true_and, and_true, List.length_nil, List.length_cons, Nat.reduceAdd, Nat.reduceLeDiff, Nat.zero_le, false_implies, true_implies, not_true_eq_false, not_false_eq_true, implies_true, Nat.reduceSub, Nat.reduceMul, Nat.reduceDiv, reduceCtorEq, tn_clamp, nI_t, tn_nI, nI_add, pk_mul, rS_gS, rS_gA, rS_gL, rA_gS, rA_gA, rA_gL, rL_gS, rL_gA, rL_gL, and_self, and_false, false_and, if_true, if_false, true_or, or_true, or_false, false_or, sm_in, eqI, sI_s, Int32.toInt_zero, Int.natCast_zero, Int.natCast_one, Int.cast_ofNat_Int, Int.reduceEq, Int.reduceLT, Int.reduceLE, Int.reduceNeg, Int.reduceNe, ne_eq, n_up, g_up, e_cat, fr_A, fr_O, fr_P, fr_L, sp_X10_rowOf, sp_X10_isQuestion, sp_X10_knows, h, cp_fr, hx, hq, e2]
        repeat' (first | (refine And.intro ?_ ?_) | (intro _))
        all_goals (first | with_reducible assumption | omega | (exfalso; omega))
  · have h2 := h2 hx
    apply hR 40
    simp (maxSteps := 10000000) (disch := omega) only [hS, hn, sm_eqs, hf, ha, sm_b0, Int.reduceToNat, ↓reduceIte, Nat.reduceEqDiff, true_and, and_true, List.length_nil, List.length_cons, Nat.reduceAdd, Nat.reduceLeDiff, Nat.zero_le, false_implies, true_implies, not_true_eq_false, not_false_eq_true, implies_true, Nat.reduceSub, Nat.reduceMul, Nat.reduceDiv, reduceCtorEq, tn_clamp, nI_t, tn_nI, nI_add, pk_mul, rS_gS, rS_gA, rS_gL, rA_gS, rA_gA, rA_gL, rL_gS, rL_gA, rL_gL, and_self, and_false, false_and, if_true, if_false, true_or, or_true, or_false, false_or, sm_in, eqI, sI_s, Int32.toInt_zero, Int.natCast_zero, Int.natCast_one, Int.cast_ofNat_Int, Int.reduceEq, Int.reduceLT, Int.reduceLE, Int.reduceNeg, Int.reduceNe, ne_eq, n_up, g_up, e_cat, fr_A, fr_O, fr_P, fr_L, sp_X10_rowOf, sp_X10_isQuestion, sp_X10_knows, h, cp_fr, hx]
    repeat' (first | (refine And.intro ?_ ?_) | (intro _))
    all_goals (first | with_reducible assumption | omega | (exfalso; omega))
theorem ok_X10_known (l : Launch) (c : sm_G) : sm_spok l lay sm_mt 4 178 (sp_X10_known c) := Or.inr (Or.inr (Or.inr ⟨by decide, by decide, by
  rw [mt_178]
  exact sm_method (T := TX10_) v_cok v_lok v_ka v_tok_X10 mok_X10_known rfl (by unfold sm_rk; simp) (wf_X10_known c) (List.forall_mem_cons.mpr ⟨sm_spok_up (Nat.le_of_ble_eq_true rfl : 3 ≤ 3) (ok_X10_rowOf l c), List.forall_mem_cons.mpr ⟨sm_spok_up (Nat.le_of_ble_eq_true rfl : 2 ≤ 3) (ok_X10_isQuestion l c), List.forall_mem_cons.mpr ⟨sm_spok_up (Nat.le_of_ble_eq_true rfl : 1 ≤ 3) (ok_X10_knows l), fun _ h => absurd h List.not_mem_nil⟩⟩⟩) (b_X10_known c)⟩))
def sp_X10_length (c : sm_G) : sm_SP := fun as g K => match as with
  | [.ref p, .int b, .int x] => p = 53 ∧ CP c g ∧ (∀ h, mS g h → CP c h → (isX c b x → K (some (.int (rA c (rwP b + 1) (tn x)))) h) ∧ (¬ isX c b x → K (some (.int (sI 0))) h))
  | _ => False
theorem wf_X10_length (c : sm_G) : sm_wf lay (yX10_length, cX10_length, 4, (some .int)) 3 false (sp_X10_length c) := by
  intro as g K h
  simp only [sp_X10_length] at h
  split at h
  · exact ⟨Nat.le_of_ble_eq_true rfl, by simp, rfl, fun _ => by obtain rfl := h.1; exact ⟨53, _, 10, [1, 1, 56, 57, 58, 59, 60, 61, 1, 1, 62, 63, 64, 65, 66, 67, 68, 69, 70, 71, 72, 73, 1, 74, 75, 76, 77, 1, 1, 78, 79, 1, 80, 1, 81, 1, 82, 83, 84, 85, 86, 1], TX10, 42, rfl, rfl, rfl⟩⟩
  · exact h.elim
set_option maxHeartbeats 4000000 in
set_option maxRecDepth 100000 in
theorem b_X10_length (c : sm_G) : sm_body lay NX10_length 4 0 (sm_cl [(174, sp_X10_rowOf c)]) (sp_X10_length c) := by
  intro K J S hW as g hs
  have hn := n_X10_length
  have hf := fd_all
  have ha := ar_all
  generalize NX10_length = N at hn hW
  generalize lay = L at hf ha hW
  obtain ⟨hS, hR⟩ := hW
  simp only [sp_X10_length] at hs
  split at hs
  case h_2 => exact hs.elim
  simp only [e_args, sm_pad, List.length_cons, List.length_nil, Nat.reduceAdd, Nat.reduceSub, List.replicate_succ, List.replicate_zero, List.cons_append, List.nil_append]
  rename_i p b x
  obtain ⟨rfl, h, hs⟩ := hs
  have hn2 := CP_n h
  obtain ⟨h1, h2⟩ := hs (gS g 53 1000 (nI 0)) (mS_S (mS_rf g)) h
  have z1 := h.1.2.1.2.2.2.2.1
  have z2 := h.1.2.2.1.1
  by_cases hx : isX c b x
  · have h1 := h1 hx
    have hx60 := isX_60 z1 z2 hx
    obtain ⟨x, hx2, rfl⟩ := sm_in_nI hx60
    rw [tn_nI (by omega)] at h1
    have e6 := h.2.2.1.2.2.2.1 x hx2
    have e9 := h.2.2.1.2.2.2.2.1 x hx2
    clear h2
    by_cases e : b.toInt = 0
    · simp only [rwP, e, if_true, Nat.reduceAdd] at h1
      apply hR 40
      simp (maxSteps := 10000000) (disch := omega) only [hS, hn, sm_eqs, hf, ha, sm_b0, Int.reduceToNat, ↓reduceIte, Nat.reduceEqDiff, true_and, and_true, List.length_nil, List.length_cons, Nat.reduceAdd, Nat.reduceLeDiff, Nat.zero_le, false_implies, true_implies, not_true_eq_false, not_false_eq_true, implies_true, Nat.reduceSub, Nat.reduceMul, Nat.reduceDiv, reduceCtorEq, tn_clamp, nI_t, tn_nI, nI_add, pk_mul, rS_gS, rS_gA, rS_gL, rA_gS, rA_gA, rA_gL, rL_gS, rL_gA, rL_gL, and_self, and_false, false_and, if_true, if_false, true_or, or_true, or_false, false_or, sm_in, eqI, sI_s, Int32.toInt_zero, Int.natCast_zero, Int.natCast_one, Int.cast_ofNat_Int, Int.reduceEq, Int.reduceLT, Int.reduceLE, Int.reduceNeg, Int.reduceNe, ne_eq, n_up, g_up, e_cat, fr_A, fr_O, fr_P, fr_L, sp_X10_rowOf, h, cp_fr, hx, e, e9]
      repeat' (first | (refine And.intro ?_ ?_) | (intro _))
      all_goals (first | with_reducible assumption | omega | (exfalso; omega))
    · simp only [rwP, e, if_false, Nat.reduceAdd] at h1
      apply hR 40
      simp (maxSteps := 10000000) (disch := omega) only [hS, hn, sm_eqs, hf, ha, sm_b0, Int.reduceToNat, ↓reduceIte, Nat.reduceEqDiff, true_and, and_true, List.length_nil, List.length_cons, Nat.reduceAdd, Nat.reduceLeDiff, Nat.zero_le, false_implies, true_implies, not_true_eq_false, not_false_eq_true, implies_true, Nat.reduceSub, Nat.reduceMul, Nat.reduceDiv, reduceCtorEq, tn_clamp, nI_t, tn_nI, nI_add, pk_mul, rS_gS, rS_gA, rS_gL, rA_gS, rA_gA, rA_gL, rL_gS, rL_gA, rL_gL, and_self, and_false, false_and, if_true, if_false, true_or, or_true, or_false, false_or, sm_in, eqI, sI_s, Int32.toInt_zero, Int.natCast_zero, Int.natCast_one, Int.cast_ofNat_Int, Int.reduceEq, Int.reduceLT, Int.reduceLE, Int.reduceNeg, Int.reduceNe, ne_eq, n_up, g_up, e_cat, fr_A, fr_O, fr_P, fr_L, sp_X10_rowOf, h, cp_fr, hx, e, e6]
      repeat' (first | (refine And.intro ?_ ?_) | (intro _))
      all_goals (first | with_reducible assumption | omega | (exfalso; omega))
  · have h2 := h2 hx
    apply hR 40
    simp (maxSteps := 10000000) (disch := omega) only [hS, hn, sm_eqs, hf, ha, sm_b0, Int.reduceToNat, ↓reduceIte, Nat.reduceEqDiff, true_and, and_true, List.length_nil, List.length_cons, Nat.reduceAdd, Nat.reduceLeDiff, Nat.zero_le, false_implies, true_implies, not_true_eq_false, not_false_eq_true, implies_true, Nat.reduceSub, Nat.reduceMul, Nat.reduceDiv, reduceCtorEq, tn_clamp, nI_t, tn_nI, nI_add, pk_mul, rS_gS, rS_gA, rS_gL, rA_gS, rA_gA, rA_gL, rL_gS, rL_gA, rL_gL, and_self, and_false, false_and, if_true, if_false, true_or, or_true, or_false, false_or, sm_in, eqI, sI_s, Int32.toInt_zero, Int.natCast_zero, Int.natCast_one, Int.cast_ofNat_Int, Int.reduceEq, Int.reduceLT, Int.reduceLE, Int.reduceNeg, Int.reduceNe, ne_eq, n_up, g_up, e_cat, fr_A, fr_O, fr_P, fr_L, sp_X10_rowOf, h, cp_fr, hx]
    repeat' (first | (refine And.intro ?_ ?_) | (intro _))
    all_goals (first | with_reducible assumption | omega | (exfalso; omega))
theorem ok_X10_length (l : Launch) (c : sm_G) : sm_spok l lay sm_mt 4 179 (sp_X10_length c) := Or.inr (Or.inr (Or.inr ⟨by decide, by decide, by
  rw [mt_179]
  exact sm_method (T := TX10_) v_cok v_lok v_ka v_tok_X10 mok_X10_length rfl (by unfold sm_rk; simp) (wf_X10_length c) (List.forall_mem_cons.mpr ⟨sm_spok_up (Nat.le_of_ble_eq_true rfl : 3 ≤ 3) (ok_X10_rowOf l c), fun _ h => absurd h List.not_mem_nil⟩) (b_X10_length c)⟩))
