/-! The reference: how its cells go with those of the class; its small methods. -/
def cpQ (c g : sm_G) : Prop := rS g 53 1001 = nI (nQ c) ∧ (∀ q, q < nQ c → rA g 54 q = rA c 2 q) ∧ (∀ q, q < nQ c → rA g 55 q = rA c 3 q) ∧ (∀ q, q < nQ c → rA g 56 q = rA c 4 q) ∧ (∀ q a b, q < 16 → a < 40 → b < 40 → a ≠ b → ((rA g 57 ((q * 40 + a) * 40 + b)).toInt = 0) = (bitL (rL c 5 (q * 40 + a)) b = false))
def cpR (c g : sm_G) : Prop := rS g 53 1009 = nI (nR c) ∧ (∀ x q, x < 60 → q < 16 → rA g 58 (16 * (60 + x) + q) = anC c 6 x q) ∧ (∀ x q, x < 60 → q < 16 → rA g 58 (16 * x + q) = anC c 9 x q) ∧ (∀ x, x < 60 → rA g 59 (60 + x) = rA c 7 x) ∧ (∀ x, x < 60 → rA g 59 x = rA c 10 x) ∧
  (∀ r, r < nR c → rA g 69 r = rA c 13 r) ∧ (∀ r, r < nR c → ((rA g 70 r).toInt = 0) = ((rA c 14 r).toInt = 1)) ∧ (∀ r, nR c ≤ r → r < 60 → rA g 70 r = nI 0)
def cpT (c g : sm_G) : Prop := rS g 53 1008 = nI (nT c) ∧ rS g 53 1022 = rS c 0 911 ∧ (∀ t, t < nT c → rA g 60 t = rA c 16 t) ∧ (∀ t, t < nT c → rA g 61 t = rA c 17 t) ∧ (∀ t, t < nT c → rA g 62 t = rA c 18 t) ∧ (∀ t, t < nT c → rA g 63 t = nI (whC c t)) ∧ (∀ t, t < nT c → rA g 64 t = rA c 19 t) ∧ (∀ t, t < nT c → rA g 65 t = rA c 20 t) ∧
  (∀ t, t < nT c → whyC c t ≠ -1 → rA g 66 t = rA c 21 t ∧ rA g 67 t = rA c 22 t ∧ rA g 68 t = rA c 23 t) ∧ (∀ t, nT c ≤ t → t < 60 → rA g 65 t = nI 0) ∧ (∀ k, k < 6 → rA g 71 k = rA c 50 k) ∧ rS g 53 1041 = nI (nO c) ∧ (∀ k, k < nO c → rA g 84 k = rA c 24 k)
def cpC (c g : sm_G) : Prop := rS g 53 1035 = nI (nC c) ∧ (∀ k, k < nC c → rA g 80 k = rA c 26 k) ∧ (∀ k, k < nC c → rA g 81 k = rA c 27 k) ∧ (∀ k, k < nC c → rA g 82 k = rA c 28 k) ∧ (∀ k, k < nC c → rA g 83 k = rA c 29 k) ∧ (∀ k, nC c ≤ k → k < 100 → rA g 83 k = nI 0)
def CP (c g : sm_G) : Prop := iv c ∧ cpQ c g ∧ cpR c g ∧ cpT c g ∧ cpC c g
/-- scratch of the reference -/
theorem cp_fr : (∀ (c g : sm_G) (v : Int32), CP c (gS g 53 1000 v) = CP c g) ∧ (∀ (c g : sm_G) (v : Int32), CP c (gS g 53 1027 v) = CP c g) ∧ (∀ (c g : sm_G) (v : Int32), CP c (gS g 53 1028 v) = CP c g) ∧ (∀ (c g : sm_G) (v : Int32), CP c (gS g 53 1031 v) = CP c g) ∧ (∀ (c g : sm_G) (v : Int32), CP c (gS g 53 1033 v) = CP c g) ∧
  (∀ (c g : sm_G) (f : Nat → Int32), CP c (gA g 72 f) = CP c g) ∧ (∀ (c g : sm_G) (f : Nat → Int32), CP c (gA g 73 f) = CP c g) ∧ (∀ (c g : sm_G) (f : Nat → Int32), CP c (gA g 74 f) = CP c g) ∧ (∀ (c g : sm_G) (f : Nat → Int32), CP c (gA g 75 f) = CP c g) ∧ (∀ (c g : sm_G) (f : Nat → Int32), CP c (gA g 77 f) = CP c g) ∧ (∀ (c g : sm_G) (f : Nat → Int32), CP c (gA g 78 f) = CP c g) ∧ (∀ (c g : sm_G) (f : Nat → Int32), CP c (gA g 79 f) = CP c g) ∧
  (∀ (c g : sm_G) (k : Nat) (f : Nat → Int64), CP c (gL g k f) = CP c g) :=
  ⟨fun _ _ _ => rfl, fun _ _ _ => rfl, fun _ _ _ => rfl, fun _ _ _ => rfl, fun _ _ _ => rfl, fun _ _ _ => rfl, fun _ _ _ => rfl, fun _ _ _ => rfl, fun _ _ _ => rfl, fun _ _ _ => rfl, fun _ _ _ => rfl, fun _ _ _ => rfl, fun _ _ _ _ => rfl⟩
theorem CP_n {c g : sm_G} (h : CP c g) : nQ c ≤ 16 ∧ nR c ≤ 60 ∧ nT c ≤ 60 ∧ nO c ≤ 60 ∧ nC c ≤ 100 := by
  obtain ⟨a, b, d, e, f⟩ := iv_z h.1
  exact ⟨a.2, b.2, d.2, e.2, f.2⟩
def sp_X10_in : sm_SP := fun as g K => match as with
  | [.int v, .int a, .int b] => (a.toInt ≤ v.toInt ∧ v.toInt ≤ b.toInt → K (some (.int (nI 1))) g) ∧ (¬ (a.toInt ≤ v.toInt ∧ v.toInt ≤ b.toInt) → K (some (.int (nI 0))) g)
  | _ => False
theorem wf_X10_in : sm_wf lay (yX10_in, cX10_in, 3, (some .boolean)) 3 true sp_X10_in := by
  intro as g K h
  simp only [sp_X10_in] at h
  split at h
  · exact ⟨Nat.le_of_ble_eq_true rfl, by simp, rfl, fun h => by cases h⟩
  · exact h.elim
set_option maxHeartbeats 4000000 in
set_option maxRecDepth 100000 in
theorem b_X10_in : sm_body lay NX10_in 3 1 (sm_cl []) sp_X10_in := by
  intro K J S hW as g hs
  have hn := n_X10_in
  have hf := fd_all
  have ha := ar_all
  generalize NX10_in = N at hn hW
  generalize lay = L at hf ha hW
  obtain ⟨hS, hR⟩ := hW
  simp only [sp_X10_in] at hs
  split at hs
  case h_2 => exact hs.elim
  simp only [e_args, sm_pad, List.length_cons, List.length_nil, Nat.reduceAdd, Nat.reduceSub, List.replicate_succ, List.replicate_zero, List.cons_append, List.nil_append]
  rename_i v a b
  obtain ⟨h1, h2⟩ := hs
  apply hR 20
  simp (maxSteps := 10000000) (disch := omega) only [hS, hn, sm_eqs, hf, ha, sm_b0, Int.reduceToNat, ↓reduceIte, Nat.reduceEqDiff, true_and, and_true, List.length_nil, List.length_cons, Nat.reduceAdd, Nat.reduceLeDiff, Nat.zero_le, false_implies, true_implies, not_true_eq_false, not_false_eq_true, implies_true, Nat.reduceSub, Nat.reduceMul, Nat.reduceDiv, reduceCtorEq, tn_clamp, nI_t, tn_nI, nI_add, pk_mul, rS_gS, rS_gA, rS_gL, rA_gS, rA_gA, rA_gL, rL_gS, rL_gA, rL_gL, and_self, and_false, false_and, if_true, if_false, true_or, or_true, or_false, false_or, sm_in, eqI, sI_s, Int32.toInt_zero, Int.natCast_zero, Int.natCast_one, Int.cast_ofNat_Int, Int.reduceEq, Int.reduceLT, Int.reduceLE, Int.reduceNeg, Int.reduceNe, ne_eq, n_up, g_up, e_cat, fr_A, fr_O, fr_P, fr_L]
  clear hn hf ha hS hR
  repeat' (first | (with_reducible refine And.intro ?_ ?_) | (with_reducible intro _))
  all_goals (first | with_reducible assumption | omega | (exfalso; omega) | grind)
theorem ok_X10_in (l : Launch) : sm_spok l lay sm_mt 1 161 sp_X10_in := Or.inr (Or.inr (Or.inr ⟨by decide, by decide, by
  rw [mt_161]
  exact sm_method (T := TX10_) v_cok v_lok v_ka v_tok_X10 mok_X10_in rfl (by unfold sm_rk; simp) wf_X10_in (fun _ h => absurd h List.not_mem_nil) b_X10_in⟩))
def sp_X10_thrown : sm_SP := fun as g K => match as with
  | [.ref p] => p = 53 ∧ K (some (.int (rS g 53 1000))) g
  | _ => False
theorem wf_X10_thrown : sm_wf lay (yX10_thrown, cX10_thrown, 1, (some .int)) 1 false sp_X10_thrown := by
  intro as g K h
  simp only [sp_X10_thrown] at h
  split at h
  · exact ⟨Nat.le_of_ble_eq_true rfl, by simp, rfl, fun _ => by obtain rfl := h.1; exact ⟨53, _, 10, [1, 1, 56, 57, 58, 59, 60, 61, 1, 1, 62, 63, 64, 65, 66, 67, 68, 69, 70, 71, 72, 73, 1, 74, 75, 76, 77, 1, 1, 78, 79, 1, 80, 1, 81, 1, 82, 83, 84, 85, 86, 1], TX10, 42, rfl, rfl, rfl⟩⟩
  · exact h.elim
set_option maxHeartbeats 4000000 in
set_option maxRecDepth 100000 in
theorem b_X10_thrown : sm_body lay NX10_thrown 1 0 (sm_cl []) sp_X10_thrown := by
  intro K J S hW as g hs
  have hn := n_X10_thrown
  have hf := fd_all
  have ha := ar_all
  generalize NX10_thrown = N at hn hW
  generalize lay = L at hf ha hW
  obtain ⟨hS, hR⟩ := hW
  simp only [sp_X10_thrown] at hs
  split at hs
  case h_2 => exact hs.elim
  simp only [e_args, sm_pad, List.length_cons, List.length_nil, Nat.reduceAdd, Nat.reduceSub, List.replicate_succ, List.replicate_zero, List.cons_append, List.nil_append]
  rename_i p
  obtain ⟨rfl, hs⟩ := hs
  apply hR 20
  simp (maxSteps := 10000000) (disch := omega) only [hS, hn, sm_eqs, hf, ha, sm_b0, Int.reduceToNat, ↓reduceIte, Nat.reduceEqDiff, true_and, and_true, List.length_nil, List.length_cons, Nat.reduceAdd, Nat.reduceLeDiff, Nat.zero_le, false_implies, true_implies, not_true_eq_false, not_false_eq_true, implies_true, Nat.reduceSub, Nat.reduceMul, Nat.reduceDiv, reduceCtorEq, tn_clamp, nI_t, tn_nI, nI_add, pk_mul, rS_gS, rS_gA, rS_gL, rA_gS, rA_gA, rA_gL, rL_gS, rL_gA, rL_gL, and_self, and_false, false_and, if_true, if_false, true_or, or_true, or_false, false_or, sm_in, eqI, sI_s, Int32.toInt_zero, Int.natCast_zero, Int.natCast_one, Int.cast_ofNat_Int, Int.reduceEq, Int.reduceLT, Int.reduceLE, Int.reduceNeg, Int.reduceNe, ne_eq, n_up, g_up, e_cat, fr_A, fr_O, fr_P, fr_L]
  exact hs
theorem ok_X10_thrown (l : Launch) : sm_spok l lay sm_mt 1 160 sp_X10_thrown := Or.inr (Or.inr (Or.inr ⟨by decide, by decide, by
  rw [mt_160]
  exact sm_method (T := TX10_) v_cok v_lok v_ka v_tok_X10 mok_X10_thrown rfl (by unfold sm_rk; simp) wf_X10_thrown (fun _ h => absurd h List.not_mem_nil) b_X10_thrown⟩))
/-- one less -/
theorem nI_m1 {n : Nat} (h : n < 2147483648) : (nI n - nI 1).toInt = (n : Int) - 1 := by
  rw [Int32.toInt_sub, nI_t h, Int.bmod_eq_of_le (by rw [show (nI 1).toInt = 1 from rfl]; omega) (by rw [show (nI 1).toInt = 1 from rfl]; omega)]; rfl
def sp_X10_isQuestion (c : sm_G) : sm_SP := fun as g K => match as with
  | [.ref p, .int q] => p = 53 ∧ CP c g ∧ (okQ c q → K (some (.int (nI 1))) g) ∧ (¬ okQ c q → K (some (.int (nI 0))) g)
  | _ => False
theorem wf_X10_isQuestion (c : sm_G) : sm_wf lay (yX10_isQuestion, cX10_isQuestion, 2, (some .boolean)) 2 false (sp_X10_isQuestion c) := by
  intro as g K h
  simp only [sp_X10_isQuestion] at h
  split at h
  · exact ⟨Nat.le_of_ble_eq_true rfl, by simp, rfl, fun _ => by obtain rfl := h.1; exact ⟨53, _, 10, [1, 1, 56, 57, 58, 59, 60, 61, 1, 1, 62, 63, 64, 65, 66, 67, 68, 69, 70, 71, 72, 73, 1, 74, 75, 76, 77, 1, 1, 78, 79, 1, 80, 1, 81, 1, 82, 83, 84, 85, 86, 1], TX10, 42, rfl, rfl, rfl⟩⟩
  · exact h.elim
set_option maxHeartbeats 4000000 in
set_option maxRecDepth 100000 in
theorem b_X10_isQuestion (c : sm_G) : sm_body lay NX10_isQuestion 2 1 (sm_cl [(161, sp_X10_in)]) (sp_X10_isQuestion c) := by
  intro K J S hW as g hs
  have hn := n_X10_isQuestion
  have hf := fd_all
  have ha := ar_all
  generalize NX10_isQuestion = N at hn hW
  generalize lay = L at hf ha hW
  obtain ⟨hS, hR⟩ := hW
  simp only [sp_X10_isQuestion] at hs
  split at hs
  case h_2 => exact hs.elim
  simp only [e_args, sm_pad, List.length_cons, List.length_nil, Nat.reduceAdd, Nat.reduceSub, List.replicate_succ, List.replicate_zero, List.cons_append, List.nil_append]
  rename_i p q
  obtain ⟨rfl, h, h1, h2⟩ := hs
  have hn2 := CP_n h
  have hq := h.2.1.1
  unfold okQ at h1 h2
  apply hR 20
  simp (maxSteps := 10000000) (disch := omega) only [hS, hn, sm_eqs, hf, ha, sm_b0, Int.reduceToNat, ↓reduceIte, Nat.reduceEqDiff, true_and, and_true, List.length_nil, List.length_cons, Nat.reduceAdd, Nat.reduceLeDiff, Nat.zero_le, false_implies, true_implies, not_true_eq_false, not_false_eq_true, implies_true, Nat.reduceSub, Nat.reduceMul, Nat.reduceDiv, reduceCtorEq, tn_clamp, nI_t, tn_nI, nI_add, pk_mul, rS_gS, rS_gA, rS_gL, rA_gS, rA_gA, rA_gL, rL_gS, rL_gA, rL_gL, and_self, and_false, false_and, if_true, if_false, true_or, or_true, or_false, false_or, sm_in, eqI, sI_s, Int32.toInt_zero, Int.natCast_zero, Int.natCast_one, Int.cast_ofNat_Int, Int.reduceEq, Int.reduceLT, Int.reduceLE, Int.reduceNeg, Int.reduceNe, ne_eq, n_up, g_up, e_cat, fr_A, fr_O, fr_P, fr_L, sp_X10_in, hq, nI_m1]
  clear hn hf ha hS hR
  repeat' (first | (with_reducible refine And.intro ?_ ?_) | (with_reducible intro _))
  all_goals (first | with_reducible assumption | omega | (exfalso; omega) | grind)
theorem ok_X10_isQuestion (l : Launch) (c : sm_G) : sm_spok l lay sm_mt 2 163 (sp_X10_isQuestion c) := Or.inr (Or.inr (Or.inr ⟨by decide, by decide, by
  rw [mt_163]
  exact sm_method (T := TX10_) v_cok v_lok v_ka v_tok_X10 mok_X10_isQuestion rfl (by unfold sm_rk; simp) (wf_X10_isQuestion c) (List.forall_mem_cons.mpr ⟨sm_spok_up (Nat.le_of_ble_eq_true rfl : 1 ≤ 1) (ok_X10_in l), fun _ h => absurd h List.not_mem_nil⟩) (b_X10_isQuestion c)⟩))
def sp_X10_isThing (c : sm_G) : sm_SP := fun as g K => match as with
  | [.ref p, .int q] => p = 53 ∧ CP c g ∧ (okT c q → K (some (.int (nI 1))) g) ∧ (¬ okT c q → K (some (.int (nI 0))) g)
  | _ => False
theorem wf_X10_isThing (c : sm_G) : sm_wf lay (yX10_isThing, cX10_isThing, 2, (some .boolean)) 2 false (sp_X10_isThing c) := by
  intro as g K h
  simp only [sp_X10_isThing] at h
  split at h
  · exact ⟨Nat.le_of_ble_eq_true rfl, by simp, rfl, fun _ => by obtain rfl := h.1; exact ⟨53, _, 10, [1, 1, 56, 57, 58, 59, 60, 61, 1, 1, 62, 63, 64, 65, 66, 67, 68, 69, 70, 71, 72, 73, 1, 74, 75, 76, 77, 1, 1, 78, 79, 1, 80, 1, 81, 1, 82, 83, 84, 85, 86, 1], TX10, 42, rfl, rfl, rfl⟩⟩
  · exact h.elim
set_option maxHeartbeats 4000000 in
set_option maxRecDepth 100000 in
theorem b_X10_isThing (c : sm_G) : sm_body lay NX10_isThing 2 1 (sm_cl [(161, sp_X10_in)]) (sp_X10_isThing c) := by
  intro K J S hW as g hs
  have hn := n_X10_isThing
  have hf := fd_all
  have ha := ar_all
  generalize NX10_isThing = N at hn hW
  generalize lay = L at hf ha hW
  obtain ⟨hS, hR⟩ := hW
  simp only [sp_X10_isThing] at hs
  split at hs
  case h_2 => exact hs.elim
  simp only [e_args, sm_pad, List.length_cons, List.length_nil, Nat.reduceAdd, Nat.reduceSub, List.replicate_succ, List.replicate_zero, List.cons_append, List.nil_append]
  rename_i p q
  obtain ⟨rfl, h, h1, h2⟩ := hs
  have hn2 := CP_n h
  have hq := h.2.2.2.1.1
  unfold okT at h1 h2
  apply hR 20
  simp (maxSteps := 10000000) (disch := omega) only [hS, hn, sm_eqs, hf, ha, sm_b0, Int.reduceToNat, ↓reduceIte, Nat.reduceEqDiff, true_and, and_true, List.length_nil, List.length_cons, Nat.reduceAdd, Nat.reduceLeDiff, Nat.zero_le, false_implies, true_implies, not_true_eq_false, not_false_eq_true, implies_true, Nat.reduceSub, Nat.reduceMul, Nat.reduceDiv, reduceCtorEq, tn_clamp, nI_t, tn_nI, nI_add, pk_mul, rS_gS, rS_gA, rS_gL, rA_gS, rA_gA, rA_gL, rL_gS, rL_gA, rL_gL, and_self, and_false, false_and, if_true, if_false, true_or, or_true, or_false, false_or, sm_in, eqI, sI_s, Int32.toInt_zero, Int.natCast_zero, Int.natCast_one, Int.cast_ofNat_Int, Int.reduceEq, Int.reduceLT, Int.reduceLE, Int.reduceNeg, Int.reduceNe, ne_eq, n_up, g_up, e_cat, fr_A, fr_O, fr_P, fr_L, sp_X10_in, hq, nI_m1]
  clear hn hf ha hS hR
  repeat' (first | (with_reducible refine And.intro ?_ ?_) | (with_reducible intro _))
  all_goals (first | with_reducible assumption | omega | (exfalso; omega) | grind)
theorem ok_X10_isThing (l : Launch) (c : sm_G) : sm_spok l lay sm_mt 2 168 (sp_X10_isThing c) := Or.inr (Or.inr (Or.inr ⟨by decide, by decide, by
  rw [mt_168]
  exact sm_method (T := TX10_) v_cok v_lok v_ka v_tok_X10 mok_X10_isThing rfl (by unfold sm_rk; simp) (wf_X10_isThing c) (List.forall_mem_cons.mpr ⟨sm_spok_up (Nat.le_of_ble_eq_true rfl : 1 ≤ 1) (ok_X10_in l), fun _ h => absurd h List.not_mem_nil⟩) (b_X10_isThing c)⟩))
def sp_X10_isReport (c : sm_G) : sm_SP := fun as g K => match as with
  | [.ref p, .int q] => p = 53 ∧ CP c g ∧ (okR c q → K (some (.int (nI 1))) g) ∧ (¬ okR c q → K (some (.int (nI 0))) g)
  | _ => False
theorem wf_X10_isReport (c : sm_G) : sm_wf lay (yX10_isReport, cX10_isReport, 2, (some .boolean)) 2 false (sp_X10_isReport c) := by
  intro as g K h
  simp only [sp_X10_isReport] at h
  split at h
  · exact ⟨Nat.le_of_ble_eq_true rfl, by simp, rfl, fun _ => by obtain rfl := h.1; exact ⟨53, _, 10, [1, 1, 56, 57, 58, 59, 60, 61, 1, 1, 62, 63, 64, 65, 66, 67, 68, 69, 70, 71, 72, 73, 1, 74, 75, 76, 77, 1, 1, 78, 79, 1, 80, 1, 81, 1, 82, 83, 84, 85, 86, 1], TX10, 42, rfl, rfl, rfl⟩⟩
  · exact h.elim
set_option maxHeartbeats 4000000 in
set_option maxRecDepth 100000 in
theorem b_X10_isReport (c : sm_G) : sm_body lay NX10_isReport 2 1 (sm_cl [(161, sp_X10_in)]) (sp_X10_isReport c) := by
  intro K J S hW as g hs
  have hn := n_X10_isReport
  have hf := fd_all
  have ha := ar_all
  generalize NX10_isReport = N at hn hW
  generalize lay = L at hf ha hW
  obtain ⟨hS, hR⟩ := hW
  simp only [sp_X10_isReport] at hs
  split at hs
  case h_2 => exact hs.elim
  simp only [e_args, sm_pad, List.length_cons, List.length_nil, Nat.reduceAdd, Nat.reduceSub, List.replicate_succ, List.replicate_zero, List.cons_append, List.nil_append]
  rename_i p q
  obtain ⟨rfl, h, h1, h2⟩ := hs
  have hn2 := CP_n h
  have hq := h.2.2.1.1
  unfold okR at h1 h2
  apply hR 20
  simp (maxSteps := 10000000) (disch := omega) only [hS, hn, sm_eqs, hf, ha, sm_b0, Int.reduceToNat, ↓reduceIte, Nat.reduceEqDiff, true_and, and_true, List.length_nil, List.length_cons, Nat.reduceAdd, Nat.reduceLeDiff, Nat.zero_le, false_implies, true_implies, not_true_eq_false, not_false_eq_true, implies_true, Nat.reduceSub, Nat.reduceMul, Nat.reduceDiv, reduceCtorEq, tn_clamp, nI_t, tn_nI, nI_add, pk_mul, rS_gS, rS_gA, rS_gL, rA_gS, rA_gA, rA_gL, rL_gS, rL_gA, rL_gL, and_self, and_false, false_and, if_true, if_false, true_or, or_true, or_false, false_or, sm_in, eqI, sI_s, Int32.toInt_zero, Int.natCast_zero, Int.natCast_one, Int.cast_ofNat_Int, Int.reduceEq, Int.reduceLT, Int.reduceLE, Int.reduceNeg, Int.reduceNe, ne_eq, n_up, g_up, e_cat, fr_A, fr_O, fr_P, fr_L, sp_X10_in, hq, nI_m1]
  clear hn hf ha hS hR
  repeat' (first | (with_reducible refine And.intro ?_ ?_) | (with_reducible intro _))
  all_goals (first | with_reducible assumption | omega | (exfalso; omega) | grind)
theorem ok_X10_isReport (l : Launch) (c : sm_G) : sm_spok l lay sm_mt 2 169 (sp_X10_isReport c) := Or.inr (Or.inr (Or.inr ⟨by decide, by decide, by
  rw [mt_169]
  exact sm_method (T := TX10_) v_cok v_lok v_ka v_tok_X10 mok_X10_isReport rfl (by unfold sm_rk; simp) (wf_X10_isReport c) (List.forall_mem_cons.mpr ⟨sm_spok_up (Nat.le_of_ble_eq_true rfl : 1 ≤ 1) (ok_X10_in l), fun _ h => absurd h List.not_mem_nil⟩) (b_X10_isReport c)⟩))
