/-! What always holds of the office's cells. -/
def ivQ (g : sm_G) : Prop := zQ g ∧ ∀ q, q < nQ g → vQ (rA g 2 q) (rA g 3 q) (rA g 4 q)
def ivR (g : sm_G) : Prop := wL g 6 ∧ wL g 9 ∧ (∀ x q, x < 60 → q < 16 → (anC g 6 x q).toInt ≠ -1 → vAns (rA g 2 q) (rA g 3 q) (anC g 6 x q)) ∧ (∀ x q, x < 60 → q < 16 → (anC g 9 x q).toInt ≠ -1 → vAns (rA g 2 q) (rA g 3 q) (anC g 9 x q)) ∧ zR g ∧ (∀ i, rA g 14 i = nI 0 ∨ rA g 14 i = nI 1)
/-- a thing's bag -/
def bgC (g : sm_G) (t : Nat) : Int := (rA g 19 t).toInt
def whyC (g : sm_G) (t : Nat) : Int := (rA g 23 t).toInt
def ivT (g : sm_G) : Prop := zT g ∧ zO g ∧ (∀ i, rA g 18 i = nI 0 ∨ rA g 18 i = nI 1) ∧ (∀ t, t < nT g → 0 ≤ (rA g 16 t).toInt ∧ (rA g 16 t).toInt < 6 ∧ 0 ≤ (rA g 17 t).toInt) ∧ (∀ t, t < nT g → whyC g t = -1 ∨ 1 ≤ whyC g t ∧ whyC g t ≤ 4) ∧
  (∀ t, t < nT g → bgC g t = -1 ∨ ∃ b, b < nT g ∧ rA g 19 t = nI b ∧ (rA g 16 b).toInt = 1 ∧ whyC g b = -1) ∧ (∀ t, t < nT g → whyC g t ≠ -1 → bgC g t = -1) ∧ (∀ t, t < nT g → whyC g t = -1 → (rA g 21 t).toInt = -1 ∧ (rA g 22 t).toInt = -1) ∧
  (∃ rk : Nat → Nat, ∀ t, t < nT g → bgC g t ≠ -1 → rk (tn (rA g 19 t)) < rk t) ∧ nO g = cnt (fun t => dc (whyC g t ≠ -1)) (nT g)
def ivC (g : sm_G) : Prop := zC g ∧ (∀ i, rA g 29 i = nI 0 ∨ rA g 29 i = nI 1) ∧ (∀ k, k < nC g → (∃ r, r < nR g ∧ rA g 26 k = nI r) ∧ (∃ t, t < nT g ∧ rA g 27 k = nI t) ∧ 0 ≤ (rA g 28 k).toInt ∧ (rA g 28 k).toInt ≤ 5 ∧ ((rA g 28 k).toInt ≤ 1 → whyC g (tn (rA g 27 k)) = -1)) ∧
  (∀ t, t < 60 → rA g 30 t = nI (cnt (fun k => dc ((rA g 28 k).toInt ≤ 1 ∧ (rA g 27 k).toInt = (t : Int))) (nC g)))
def iv (g : sm_G) : Prop := ivQ g ∧ ivR g ∧ ivT g ∧ ivC g
theorem iv_wQ {g : sm_G} (h : iv g) : wQ g := ⟨h.1.1, fun j hj h0 => by
  have := (h.1.2 j hj).1
  omega⟩
theorem iv_z {g : sm_G} (h : iv g) : zQ g ∧ zR g ∧ zT g ∧ zO g ∧ zC g := ⟨h.1.1, h.2.1.2.2.2.2.1, h.2.2.1.1, h.2.2.1.2.1, h.2.2.2.1⟩
theorem iv_wL {g : sm_G} (h : iv g) : wL g 6 ∧ wL g 9 := ⟨h.2.1.1, h.2.1.2.1⟩
def sp_X9_question : sm_SP := fun as g K => match as with
  | [.ref p, .int s, .int n, .int w] => p = 0 ∧ zQ g ∧ (nQ g < 16 ∧ vQ s n w → K (some (.int (nI (nQ g)))) (gS (gA (gA (gA g 2 (upd (rA g 2) (nQ g) s)) 3 (upd (rA g 3) (nQ g) n)) 4 (upd (rA g 4) (nQ g) w)) 1 504 (nI (nQ g + 1)))) ∧ (¬ (nQ g < 16 ∧ vQ s n w) → K (some (.int (sI 0))) g)
  | _ => False
theorem wf_X9_question : sm_wf lay (yX9_question, cX9_question, 4, (some .int)) 4 false sp_X9_question := by
  intro as g K h
  simp only [sp_X9_question] at h
  split at h
  · exact ⟨Nat.le_of_ble_eq_true rfl, by simp, rfl, fun _ => by obtain rfl := h.1; exact ⟨0, _, 9, [3, 8, 11, 14, 17, 27, 33, 35, 48, 52, 53, 1], TX9, 12, rfl, rfl, rfl⟩⟩
  · exact h.elim
set_option maxHeartbeats 4000000 in
set_option maxRecDepth 100000 in
theorem b_X9_question : sm_body lay NX9_question 4 0 (sm_cl [(68, sp_X5_add)]) sp_X9_question := by
  intro K J S hW as g hs
  have hn := n_X9_question
  have hf := fd_all
  have ha := ar_all
  generalize NX9_question = N at hn hW
  generalize lay = L at hf ha hW
  obtain ⟨hS, hR⟩ := hW
  simp only [sp_X9_question] at hs
  split at hs
  case h_2 => exact hs.elim
  simp only [e_args, sm_pad, List.length_cons, List.length_nil, Nat.reduceAdd, Nat.reduceSub, List.replicate_succ, List.replicate_zero, List.cons_append, List.nil_append]
  rename_i p s n w
  obtain ⟨rfl, z, h1, h2⟩ := hs
  apply hR 20
  simp (maxSteps := 10000000) (disch := omega) only [hS, hn, sm_eqs, hf, ha, sm_b0, Int.reduceToNat, ↓reduceIte, Nat.reduceEqDiff, true_and, and_true, List.length_nil, List.length_cons, Nat.reduceAdd, Nat.reduceLeDiff, Nat.zero_le, false_implies, true_implies, not_true_eq_false, not_false_eq_true, implies_true, Nat.reduceSub, Nat.reduceMul, Nat.reduceDiv, reduceCtorEq, tn_clamp, nI_t, tn_nI, nI_add, pk_mul, rS_gS, rS_gA, rS_gL, rA_gS, rA_gA, rA_gL, rL_gS, rL_gA, rL_gL, and_self, and_false, false_and, if_true, if_false, true_or, or_true, or_false, false_or, sm_in, eqI, sI_s, Int32.toInt_zero, Int.natCast_zero, Int.natCast_one, Int.cast_ofNat_Int, Int.reduceEq, Int.reduceLT, Int.reduceLE, Int.reduceNeg, Int.reduceNe, ne_eq, n_up, g_up, e_cat, fr_A, fr_O, fr_P, fr_L, sp_X5_add, z]
  repeat' (first | (refine And.intro ?_ ?_) | (intro _))
  all_goals (first | with_reducible assumption | omega | (exfalso; omega) | exact h1 (by assumption) | exact h1 ⟨by assumption, by assumption⟩ | exact h2 (by assumption))
theorem ok_X9_question (l : Launch) : sm_spok l lay sm_mt 3 115 sp_X9_question := Or.inr (Or.inr (Or.inr ⟨by decide, by decide, by
  rw [mt_115]
  exact sm_method (T := TX9_) v_cok v_lok v_ka v_tok_X9 mok_X9_question rfl (by unfold sm_rk; simp) wf_X9_question (List.forall_mem_cons.mpr ⟨sm_spok_up (Nat.le_of_ble_eq_true rfl : 2 ≤ 2) (ok_X5_add l), fun _ h => absurd h List.not_mem_nil⟩) b_X9_question⟩))
def sp_X9_may : sm_SP := fun as g K => match as with
  | [.ref p, .int q, .int a, .int b, .int is] => p = 0 ∧ wQ g ∧ (is = nI 0 ∨ is = nI 1) ∧
      (okQ g q ∧ vAns (rA g 2 (tn q)) (rA g 3 (tn q)) a ∧ vAns (rA g 2 (tn q)) (rA g 3 (tn q)) b ∧ (rA g 2 (tn q)).toInt = 0 →
        (a.toInt = b.toInt → K (some (.int is)) g) ∧ (a.toInt ≠ b.toInt → K (some (.int (nI 1))) (gL g 5 (tld (tld (rL g 5) (tn q * 40 + tn a) (tn b) is) (tn q * 40 + tn b) (tn a) is)))) ∧
      (¬ (okQ g q ∧ vAns (rA g 2 (tn q)) (rA g 3 (tn q)) a ∧ vAns (rA g 2 (tn q)) (rA g 3 (tn q)) b ∧ (rA g 2 (tn q)).toInt = 0) → K (some (.int (nI 0))) g)
  | _ => False
theorem wf_X9_may : sm_wf lay (yX9_may, cX9_may, 5, (some .boolean)) 5 false sp_X9_may := by
  intro as g K h
  simp only [sp_X9_may] at h
  split at h
  · exact ⟨Nat.le_of_ble_eq_true rfl, by simp, rfl, fun _ => by obtain rfl := h.1; exact ⟨0, _, 9, [3, 8, 11, 14, 17, 27, 33, 35, 48, 52, 53, 1], TX9, 12, rfl, rfl, rfl⟩⟩
  · exact h.elim
set_option maxHeartbeats 4000000 in
set_option maxRecDepth 100000 in
theorem b_X9_may : sm_body lay NX9_may 5 1 (sm_cl [(71, sp_X5_tellOfTable)]) sp_X9_may := by
  intro K J S hW as g hs
  have hn := n_X9_may
  have hf := fd_all
  have ha := ar_all
  generalize NX9_may = N at hn hW
  generalize lay = L at hf ha hW
  obtain ⟨hS, hR⟩ := hW
  simp only [sp_X9_may] at hs
  split at hs
  case h_2 => exact hs.elim
  simp only [e_args, sm_pad, List.length_cons, List.length_nil, Nat.reduceAdd, Nat.reduceSub, List.replicate_succ, List.replicate_zero, List.cons_append, List.nil_append]
  rename_i p q a b is
  obtain ⟨rfl, w, his, h1, h2⟩ := hs
  have w2 := w.2
  have hz : sm_zr 1 is = True := by rcases his with rfl | rfl <;> simp [sm_eqs]
  apply hR 20
  simp (maxSteps := 10000000) (disch := omega) only [hS, hn, sm_eqs, hf, ha, sm_b0, Int.reduceToNat, ↓reduceIte, Nat.reduceEqDiff, true_and, and_true, List.length_nil, List.length_cons, Nat.reduceAdd, Nat.reduceLeDiff, Nat.zero_le, false_implies, true_implies, not_true_eq_false, not_false_eq_true, implies_true, Nat.reduceSub, Nat.reduceMul, Nat.reduceDiv, reduceCtorEq, tn_clamp, nI_t, tn_nI, nI_add, pk_mul, rS_gS, rS_gA, rS_gL, rA_gS, rA_gA, rA_gL, rL_gS, rL_gA, rL_gL, and_self, and_false, false_and, if_true, if_false, true_or, or_true, or_false, false_or, sm_in, eqI, sI_s, Int32.toInt_zero, Int.natCast_zero, Int.natCast_one, Int.cast_ofNat_Int, Int.reduceEq, Int.reduceLT, Int.reduceLE, Int.reduceNeg, Int.reduceNe, ne_eq, n_up, g_up, e_cat, fr_A, fr_O, fr_P, fr_L, sp_X5_tellOfTable, w, w.1, hz]
  clear hn hf ha hS hR
  grind
theorem ok_X9_may (l : Launch) : sm_spok l lay sm_mt 3 116 sp_X9_may := Or.inr (Or.inr (Or.inr ⟨by decide, by decide, by
  rw [mt_116]
  exact sm_method (T := TX9_) v_cok v_lok v_ka v_tok_X9 mok_X9_may rfl (by unfold sm_rk; simp) wf_X9_may (List.forall_mem_cons.mpr ⟨sm_spok_up (Nat.le_of_ble_eq_true rfl : 2 ≤ 2) (ok_X5_tellOfTable l), fun _ h => absurd h List.not_mem_nil⟩) b_X9_may⟩))
def sp_X9_mays : sm_SP := fun as g K => match as with
  | [.ref p, .int q, .int a, .int b] => p = 0 ∧ wQ g ∧ (okQ g q ∧ vAns (rA g 2 (tn q)) (rA g 3 (tn q)) a ∧ vAns (rA g 2 (tn q)) (rA g 3 (tn q)) b →
      (vAg (rA g 2 (tn q)) (rA g 3 (tn q)) (bitL (rL g 5 (tn q * 40 + tn a)) (tn b) = true) a b → K (some (.int (nI 1))) g) ∧ (¬ vAg (rA g 2 (tn q)) (rA g 3 (tn q)) (bitL (rL g 5 (tn q * 40 + tn a)) (tn b) = true) a b → K (some (.int (nI 0))) g)) ∧
      (¬ (okQ g q ∧ vAns (rA g 2 (tn q)) (rA g 3 (tn q)) a ∧ vAns (rA g 2 (tn q)) (rA g 3 (tn q)) b) → K (some (.int (sI 0))) g)
  | _ => False
theorem wf_X9_mays : sm_wf lay (yX9_mays, cX9_mays, 4, (some .int)) 4 false sp_X9_mays := by
  intro as g K h
  simp only [sp_X9_mays] at h
  split at h
  · exact ⟨Nat.le_of_ble_eq_true rfl, by simp, rfl, fun _ => by obtain rfl := h.1; exact ⟨0, _, 9, [3, 8, 11, 14, 17, 27, 33, 35, 48, 52, 53, 1], TX9, 12, rfl, rfl, rfl⟩⟩
  · exact h.elim
set_option maxHeartbeats 4000000 in
set_option maxRecDepth 100000 in
theorem b_X9_mays : sm_body lay NX9_mays 4 0 (sm_cl [(70, sp_X5_isAnswer), (73, sp_X5_agree)]) sp_X9_mays := by
  intro K J S hW as g hs
  have hn := n_X9_mays
  have hf := fd_all
  have ha := ar_all
  generalize NX9_mays = N at hn hW
  generalize lay = L at hf ha hW
  obtain ⟨hS, hR⟩ := hW
  simp only [sp_X9_mays] at hs
  split at hs
  case h_2 => exact hs.elim
  simp only [e_args, sm_pad, List.length_cons, List.length_nil, Nat.reduceAdd, Nat.reduceSub, List.replicate_succ, List.replicate_zero, List.cons_append, List.nil_append]
  rename_i p q a b
  obtain ⟨rfl, w, h1, h2⟩ := hs
  have w2 := w.2
  apply hR 40
  simp (maxSteps := 10000000) (disch := omega) only [hS, hn, sm_eqs, hf, ha, sm_b0, Int.reduceToNat, ↓reduceIte, Nat.reduceEqDiff, true_and, and_true, List.length_nil, List.length_cons, Nat.reduceAdd, Nat.reduceLeDiff, Nat.zero_le, false_implies, true_implies, not_true_eq_false, not_false_eq_true, implies_true, Nat.reduceSub, Nat.reduceMul, Nat.reduceDiv, reduceCtorEq, tn_clamp, nI_t, tn_nI, nI_add, pk_mul, rS_gS, rS_gA, rS_gL, rA_gS, rA_gA, rA_gL, rL_gS, rL_gA, rL_gL, and_self, and_false, false_and, if_true, if_false, true_or, or_true, or_false, false_or, sm_in, eqI, sI_s, Int32.toInt_zero, Int.natCast_zero, Int.natCast_one, Int.cast_ofNat_Int, Int.reduceEq, Int.reduceLT, Int.reduceLE, Int.reduceNeg, Int.reduceNe, ne_eq, n_up, g_up, e_cat, fr_A, fr_O, fr_P, fr_L, sp_X5_isAnswer, sp_X5_agree, w, w.1]
  clear hn hf ha hS hR
  grind
theorem ok_X9_mays (l : Launch) : sm_spok l lay sm_mt 3 117 sp_X9_mays := Or.inr (Or.inr (Or.inr ⟨by decide, by decide, by
  rw [mt_117]
  exact sm_method (T := TX9_) v_cok v_lok v_ka v_tok_X9 mok_X9_mays rfl (by unfold sm_rk; simp) wf_X9_mays (List.forall_mem_cons.mpr ⟨sm_spok_up (Nat.le_of_ble_eq_true rfl : 1 ≤ 2) (ok_X5_isAnswer l), List.forall_mem_cons.mpr ⟨sm_spok_up (Nat.le_of_ble_eq_true rfl : 2 ≤ 2) (ok_X5_agree l), fun _ h => absurd h List.not_mem_nil⟩⟩) b_X9_mays⟩))
def sp_X9_thing : sm_SP := fun as g K => match as with
  | [.ref p, .int k, .int f, .int w, .int b] => p = 0 ∧ zT g ∧ (w = nI 0 ∨ w = nI 1) ∧
      (nT g < 60 ∧ (0 ≤ k.toInt ∧ k.toInt < 6 ∧ 0 ≤ f.toInt ∧ f.toInt ≤ 999) ∧ (b.toInt = -1 ∨ hereC g b ∧ (rA g 16 (tn b)).toInt = 1) → K (some (.int (nI (nT g)))) (gS (gA (gA (gA (gA (gA (gA (gA (gA g 16 (upd (rA g 16) (nT g) k)) 17 (upd (rA g 17) (nT g) f)) 18 (upd (rA g 18) (nT g) w)) 19 (upd (rA g 19) (nT g) b)) 20 (upd (rA g 20) (nT g) (nI 0))) 21 (upd (rA g 21) (nT g) (sI 0))) 22 (upd (rA g 22) (nT g) (sI 0))) 23 (upd (rA g 23) (nT g) (sI 0))) 15 809 (nI (nT g + 1)))) ∧
      (¬ (nT g < 60 ∧ (0 ≤ k.toInt ∧ k.toInt < 6 ∧ 0 ≤ f.toInt ∧ f.toInt ≤ 999) ∧ (b.toInt = -1 ∨ hereC g b ∧ (rA g 16 (tn b)).toInt = 1)) → K (some (.int (sI 0))) g)
  | _ => False
theorem wf_X9_thing : sm_wf lay (yX9_thing, cX9_thing, 5, (some .int)) 5 false sp_X9_thing := by
  intro as g K h
  simp only [sp_X9_thing] at h
  split at h
  · exact ⟨Nat.le_of_ble_eq_true rfl, by simp, rfl, fun _ => by obtain rfl := h.1; exact ⟨0, _, 9, [3, 8, 11, 14, 17, 27, 33, 35, 48, 52, 53, 1], TX9, 12, rfl, rfl, rfl⟩⟩
  · exact h.elim
set_option maxHeartbeats 4000000 in
set_option maxRecDepth 100000 in
theorem b_X9_thing : sm_body lay NX9_thing 5 0 (sm_cl [(93, sp_X8_isBagHere), (94, sp_X8_add)]) sp_X9_thing := by
  intro K J S hW as g hs
  have hn := n_X9_thing
  have hf := fd_all
  have ha := ar_all
  generalize NX9_thing = N at hn hW
  generalize lay = L at hf ha hW
  obtain ⟨hS, hR⟩ := hW
  simp only [sp_X9_thing] at hs
  split at hs
  case h_2 => exact hs.elim
  simp only [e_args, sm_pad, List.length_cons, List.length_nil, Nat.reduceAdd, Nat.reduceSub, List.replicate_succ, List.replicate_zero, List.cons_append, List.nil_append]
  rename_i p k f w b
  obtain ⟨rfl, z, his, h1, h2⟩ := hs
  have hz : sm_zr 1 w = True := by rcases his with rfl | rfl <;> simp [sm_eqs]
  apply hR 60
  simp (maxSteps := 10000000) (disch := omega) only [hS, hn, sm_eqs, hf, ha, sm_b0, Int.reduceToNat, ↓reduceIte, Nat.reduceEqDiff, true_and, and_true, List.length_nil, List.length_cons, Nat.reduceAdd, Nat.reduceLeDiff, Nat.zero_le, false_implies, true_implies, not_true_eq_false, not_false_eq_true, implies_true, Nat.reduceSub, Nat.reduceMul, Nat.reduceDiv, reduceCtorEq, tn_clamp, nI_t, tn_nI, nI_add, pk_mul, rS_gS, rS_gA, rS_gL, rA_gS, rA_gA, rA_gL, rL_gS, rL_gA, rL_gL, and_self, and_false, false_and, if_true, if_false, true_or, or_true, or_false, false_or, sm_in, eqI, sI_s, Int32.toInt_zero, Int.natCast_zero, Int.natCast_one, Int.cast_ofNat_Int, Int.reduceEq, Int.reduceLT, Int.reduceLE, Int.reduceNeg, Int.reduceNe, ne_eq, n_up, g_up, e_cat, fr_A, fr_O, fr_P, fr_L, sp_X8_isBagHere, sp_X8_add, z, hz]
  clear hn hf ha hS hR
  grind
theorem ok_X9_thing (l : Launch) : sm_spok l lay sm_mt 3 118 sp_X9_thing := Or.inr (Or.inr (Or.inr ⟨by decide, by decide, by
  rw [mt_118]
  exact sm_method (T := TX9_) v_cok v_lok v_ka v_tok_X9 mok_X9_thing rfl (by unfold sm_rk; simp) wf_X9_thing (List.forall_mem_cons.mpr ⟨sm_spok_up (Nat.le_of_ble_eq_true rfl : 2 ≤ 2) (ok_X8_isBagHere l), List.forall_mem_cons.mpr ⟨sm_spok_up (Nat.le_of_ble_eq_true rfl : 1 ≤ 2) (ok_X8_add l), fun _ h => absurd h List.not_mem_nil⟩⟩) b_X9_thing⟩))
def sp_X9_report : sm_SP := fun as g K => match as with
  | [.ref p, .int w] => p = 0 ∧ zR g ∧ (nR g < 60 ∧ 1 ≤ w.toInt ∧ w.toInt ≤ 999 → K (some (.int (nI (nR g)))) (gS (gA (gA g 13 (upd (rA g 13) (nR g) w)) 14 (upd (rA g 14) (nR g) (nI 1))) 12 602 (nI (nR g + 1)))) ∧ (¬ (nR g < 60 ∧ 1 ≤ w.toInt ∧ w.toInt ≤ 999) → K (some (.int (sI 0))) g)
  | _ => False
theorem wf_X9_report : sm_wf lay (yX9_report, cX9_report, 2, (some .int)) 2 false sp_X9_report := by
  intro as g K h
  simp only [sp_X9_report] at h
  split at h
  · exact ⟨Nat.le_of_ble_eq_true rfl, by simp, rfl, fun _ => by obtain rfl := h.1; exact ⟨0, _, 9, [3, 8, 11, 14, 17, 27, 33, 35, 48, 52, 53, 1], TX9, 12, rfl, rfl, rfl⟩⟩
  · exact h.elim
set_option maxHeartbeats 4000000 in
set_option maxRecDepth 100000 in
theorem b_X9_report : sm_body lay NX9_report 2 0 (sm_cl [(79, sp_X6_add)]) sp_X9_report := by
  intro K J S hW as g hs
  have hn := n_X9_report
  have hf := fd_all
  have ha := ar_all
  generalize NX9_report = N at hn hW
  generalize lay = L at hf ha hW
  obtain ⟨hS, hR⟩ := hW
  simp only [sp_X9_report] at hs
  split at hs
  case h_2 => exact hs.elim
  simp only [e_args, sm_pad, List.length_cons, List.length_nil, Nat.reduceAdd, Nat.reduceSub, List.replicate_succ, List.replicate_zero, List.cons_append, List.nil_append]
  rename_i p w
  obtain ⟨rfl, z, h1, h2⟩ := hs
  apply hR 20
  simp (maxSteps := 10000000) (disch := omega) only [hS, hn, sm_eqs, hf, ha, sm_b0, Int.reduceToNat, ↓reduceIte, Nat.reduceEqDiff, true_and, and_true, List.length_nil, List.length_cons, Nat.reduceAdd, Nat.reduceLeDiff, Nat.zero_le, false_implies, true_implies, not_true_eq_false, not_false_eq_true, implies_true, Nat.reduceSub, Nat.reduceMul, Nat.reduceDiv, reduceCtorEq, tn_clamp, nI_t, tn_nI, nI_add, pk_mul, rS_gS, rS_gA, rS_gL, rA_gS, rA_gA, rA_gL, rL_gS, rL_gA, rL_gL, and_self, and_false, false_and, if_true, if_false, true_or, or_true, or_false, false_or, sm_in, eqI, sI_s, Int32.toInt_zero, Int.natCast_zero, Int.natCast_one, Int.cast_ofNat_Int, Int.reduceEq, Int.reduceLT, Int.reduceLE, Int.reduceNeg, Int.reduceNe, ne_eq, n_up, g_up, e_cat, fr_A, fr_O, fr_P, fr_L, sp_X6_add, z]
  clear hn hf ha hS hR
  grind
theorem ok_X9_report (l : Launch) : sm_spok l lay sm_mt 2 119 sp_X9_report := Or.inr (Or.inr (Or.inr ⟨by decide, by decide, by
  rw [mt_119]
  exact sm_method (T := TX9_) v_cok v_lok v_ka v_tok_X9 mok_X9_report rfl (by unfold sm_rk; simp) wf_X9_report (List.forall_mem_cons.mpr ⟨sm_spok_up (Nat.le_of_ble_eq_true rfl : 1 ≤ 1) (ok_X6_add l), fun _ h => absurd h List.not_mem_nil⟩) b_X9_report⟩))
