/-! The reference: what a report is given. -/
theorem mS_tr {g h k : sm_G} (a : mS g h) (b : mS h k) : mS g k := ⟨fun p d e => (b.1 p d e).trans (a.1 p d e), fun x hx => (b.2.1 x hx).trans (a.2.1 x hx), fun x hx => (b.2.2 x hx).trans (a.2.2 x hx)⟩
theorem mbr_opn {c : sm_G} {r i : Nat} (hn : nT c ≤ 60) (ho : (rA c 14 r).toInt = 1) (h : mbr c r i) : (rA c 14 i).toInt = 1 := h (fun i => (rA c 14 i).toInt = 1) ho (fun a b _ _ _ ⟨t, _, _, hb⟩ => ((gF_bit hn).mp hb).1)
theorem bst_gd {c : sm_G} {R C : Nat} {mem gd : Nat → Nat} {W : Nat → Option Nat} (hb : bstW c R C mem gd W) {i j : Nat} (hi : i < R) (h : W i = some j) : j < C := (hb.1.1 i j hi h).1
theorem oI_cases {c : sm_G} {r : Nat} {W : Nat → Option Nat} (hn : nT c ≤ 60) {mem : Nat → Nat} {R : Nat} (hb : bstW c R (gdL c r).length mem (gdF c r) W) {i : Nat} (hi : i < R) :
    (W i = none ∧ oI ((W i).map (gdF c r)) = sI 0) ∨ ∃ j, W i = some j ∧ oI ((W i).map (gdF c r)) = nI (gdF c r j) ∧ gdF c r j < nT c := by
  cases hW : W i with
  | none => exact Or.inl ⟨rfl, rfl⟩
  | some j =>
    obtain ⟨_, k, _, hb2⟩ := gdF_mem (bst_gd hb hi hW)
    exact Or.inr ⟨j, rfl, rfl, ((gF_bit hn).mp hb2).2.1⟩
def sp_X10_given (c : sm_G) : sm_SP := fun as g K => match as with
  | [.ref p, .int r] => p = 53 ∧ CP c g ∧ opn c r ∧ (10 < (memL c (tn r)).length ∨ 20 < (gdL c (tn r)).length → ∀ h, mS g h → CP c h → K (some (.int (sI 1))) h) ∧ (¬ (10 < (memL c (tn r)).length ∨ 20 < (gdL c (tn r)).length) → ∀ W i h, mS g h → CP c h → bstW c (memL c (tn r)).length (gdL c (tn r)).length (memF c (tn r)) (gdF c (tn r)) W → i < (memL c (tn r)).length → memF c (tn r) i = tn r → rS h 53 1031 = nI (wss c (memF c (tn r)) (gdF c (tn r)) W (memL c (tn r)).length) → K (some (.int (oI ((W i).map (gdF c (tn r)))))) h)
  | _ => False
theorem wf_X10_given (c : sm_G) : sm_wf lay (yX10_given, cX10_given, 3, (some .int)) 2 false (sp_X10_given c) := by
  intro as g K h
  simp only [sp_X10_given] at h
  split at h
  · exact ⟨Nat.le_of_ble_eq_true rfl, by simp, rfl, fun _ => by obtain rfl := h.1; exact ⟨53, _, 10, [1, 1, 56, 57, 58, 59, 60, 61, 1, 1, 62, 63, 64, 65, 66, 67, 68, 69, 70, 71, 72, 73, 1, 74, 75, 76, 77, 1, 1, 78, 79, 1, 80, 1, 81, 1, 82, 83, 84, 85, 86, 1], TX10, 42, rfl, rfl, rfl⟩⟩
  · exact h.elim
set_option maxHeartbeats 4000000 in
set_option maxRecDepth 100000 in
theorem b_X10_given (c : sm_G) : sm_body lay NX10_given 3 0 (sm_cl [(190, sp_X10_findGroup c), (191, sp_X10_isTooLarge), (193, sp_X10_match c)]) (sp_X10_given c) := by
  intro K J S hW as g hs
  have hn := n_X10_given
  have hf := fd_all
  have ha := ar_all
  generalize NX10_given = N at hn hW
  generalize lay = L at hf ha hW
  obtain ⟨hS, hR⟩ := hW
  simp only [sp_X10_given] at hs
  split at hs
  case h_2 => exact hs.elim
  simp only [e_args, sm_pad, List.length_cons, List.length_nil, Nat.reduceAdd, Nat.reduceSub, List.replicate_succ, List.replicate_zero, List.cons_append, List.nil_append]
  rename_i p r
  obtain ⟨rfl, h, ho, h1, h2⟩ := hs
  have hn2 := CP_n h
  have hop := ho.2
  obtain ⟨r, hr, rfl⟩ := ok_nI ho.1
  rw [tn_nI (by omega)] at h1 h2 hop
  have lm : (memL c r).length ≤ 60 := by unfold memL; rw [lst_len]; exact cnt_le _ _
  have lg : (gdL c r).length ≤ 60 := by unfold gdL; rw [lst_len]; exact cnt_le _ _
  obtain ⟨i0, o1, o2, o3⟩ := mem_idx (g := c) (r := r) (by omega)
  have hgd : ∀ j, j < (gdL c r).length → gdF c r j < nT c := fun j hj => by
    obtain ⟨_, i, _, hb⟩ := gdF_mem hj
    exact ((gF_bit hn2.2.2.1).mp hb).2.1
  have hmo : ∀ i, i < (memL c r).length → (rA c 14 (memF c r i)).toInt = 1 := fun i hi => mbr_opn hn2.2.2.1 hop (memF_mem hi).2
  have fin : ∀ s W, ¬ (10 < (memL c r).length ∨ 20 < (gdL c r).length) → mS g s → CP c s → (∀ i, i < (memL c r).length → rA s 74 i = nI (memF c r i)) → bstW c (memL c r).length (gdL c r).length (memF c r) (gdF c r) W → (∀ i, i < (memL c r).length → rA s 77 i = oI ((W i).map (gdF c r))) → rS s 53 1031 = nI (wss c (memF c r) (gdF c r) W (memL c r).length) →
      ∀ d i, d = i0 - i → i ≤ i0 → J 21 [some (.ref 53), some (.int (nI r)), some (.int (nI i))] [] s := by
    intro s W hsm hms hcp h74 hb h77 h31 d
    induction d with
    | zero =>
      intro i hd hi
      obtain rfl : i = i0 := by omega
      have e74 := h74 i o1
      have e77 := h77 i o1
      rw [o2] at e74
      have h2 := h2 hsm W i s hms hcp hb o1 o2 h31
      clear h1
      apply hR 60
      simp (maxSteps := 10000000) (disch := omega) only [hS, hn, sm_eqs, hf, ha, sm_b0, Int.reduceToNat, ↓reduceIte, Nat.reduceEqDiff, true_and, and_true, List.length_nil, List.length_cons, Nat.reduceAdd, Nat.reduceLeDiff, Nat.zero_le, false_implies, true_implies, not_true_eq_false, not_false_eq_true, implies_true, Nat.reduceSub, Nat.reduceMul, Nat.reduceDiv, reduceCtorEq, tn_clamp, nI_t, tn_nI, nI_add, pk_mul, rS_gS, rS_gA, rS_gL, rA_gS, rA_gA, rA_gL, rL_gS, rL_gA, rL_gL, and_self, and_false, false_and, if_true, if_false, true_or, or_true, or_false, false_or, sm_in, eqI, sI_s, Int32.toInt_zero, Int.natCast_zero, Int.natCast_one, Int.cast_ofNat_Int, Int.reduceEq, Int.reduceLT, Int.reduceLE, Int.reduceNeg, Int.reduceNe, ne_eq, n_up, g_up, e_cat, fr_A, fr_O, fr_P, fr_L, sp_X10_findGroup, sp_X10_isTooLarge, sp_X10_match, e74, e77]
      clear hn hf ha hS hR
      repeat' (first | (refine And.intro ?_ ?_) | (intro _))
      all_goals (first | with_reducible assumption | omega | (exfalso; omega))
    | succ d ih =>
      intro i hd hi
      have ih := ih (i + 1) (by omega) (by omega)
      have e74 := h74 i (by omega)
      have hne := o3 i (by omega)
      have h60 := (memF_mem (g := c) (r := r) (i := i) (by omega)).1
      clear h1 h2
      apply hR 60
      simp (maxSteps := 10000000) (disch := omega) only [hS, hn, sm_eqs, hf, ha, sm_b0, Int.reduceToNat, ↓reduceIte, Nat.reduceEqDiff, true_and, and_true, List.length_nil, List.length_cons, Nat.reduceAdd, Nat.reduceLeDiff, Nat.zero_le, false_implies, true_implies, not_true_eq_false, not_false_eq_true, implies_true, Nat.reduceSub, Nat.reduceMul, Nat.reduceDiv, reduceCtorEq, tn_clamp, nI_t, tn_nI, nI_add, pk_mul, rS_gS, rS_gA, rS_gL, rA_gS, rA_gA, rA_gL, rL_gS, rL_gA, rL_gL, and_self, and_false, false_and, if_true, if_false, true_or, or_true, or_false, false_or, sm_in, eqI, sI_s, Int32.toInt_zero, Int.natCast_zero, Int.natCast_one, Int.cast_ofNat_Int, Int.reduceEq, Int.reduceLT, Int.reduceLE, Int.reduceNeg, Int.reduceNe, ne_eq, n_up, g_up, e_cat, fr_A, fr_O, fr_P, fr_L, sp_X10_findGroup, sp_X10_isTooLarge, sp_X10_match, e74]
      clear hn hf ha hS hR
      repeat' (first | (refine And.intro ?_ ?_) | (intro _))
      all_goals (first | with_reducible assumption | omega | (exfalso; omega))
  have big : ∀ s, 10 < (memL c r).length ∨ 20 < (gdL c r).length → mS g s → CP c s → K (some (.int (sI 1))) s := fun s a b d => h1 a s b d
  clear h1 h2
  apply hR 60
  simp (maxSteps := 10000000) (disch := omega) only [hS, hn, sm_eqs, hf, ha, sm_b0, Int.reduceToNat, ↓reduceIte, Nat.reduceEqDiff, true_and, and_true, List.length_nil, List.length_cons, Nat.reduceAdd, Nat.reduceLeDiff, Nat.zero_le, false_implies, true_implies, not_true_eq_false, not_false_eq_true, implies_true, Nat.reduceSub, Nat.reduceMul, Nat.reduceDiv, reduceCtorEq, tn_clamp, nI_t, tn_nI, nI_add, pk_mul, rS_gS, rS_gA, rS_gL, rA_gS, rA_gA, rA_gL, rL_gS, rL_gA, rL_gL, and_self, and_false, false_and, if_true, if_false, true_or, or_true, or_false, false_or, sm_in, eqI, sI_s, Int32.toInt_zero, Int.natCast_zero, Int.natCast_one, Int.cast_ofNat_Int, Int.reduceEq, Int.reduceLT, Int.reduceLE, Int.reduceNeg, Int.reduceNe, ne_eq, n_up, g_up, e_cat, fr_A, fr_O, fr_P, fr_L, sp_X10_findGroup, sp_X10_isTooLarge, sp_X10_match, h, ho]
  clear hn hf ha hS hR
  intro A B M G hM hG
  have hcp : ∀ v w, CP c (gS (gS (gA (gA (gA (gA g 72 A) 73 B) 74 M) 75 G) 53 1027 v) 53 1028 w) := fun v w => by simp only [cp_fr]; exact h
  have hms : ∀ v w, mS g (gS (gS (gA (gA (gA (gA g 72 A) 73 B) 74 M) 75 G) 53 1027 v) 53 1028 w) := fun v w => mS_S (mS_S (mS_A (mS_A (mS_A (mS_A (mS_rf g) (by omega)) (by omega)) (by omega)) (by omega)))
  have hM2 : ∀ i, i < (memL c r).length → M i = nI (memF c r i) := fun i hi => hM i (memF c r i) (by unfold memF; rw [List.getD_eq_getElem?_getD, List.getElem?_eq_getElem hi]; rfl)
  have hG2 : ∀ j, j < (gdL c r).length → G j = nI (gdF c r j) := fun j hj => hG j (gdF c r j) (by unfold gdF; rw [List.getD_eq_getElem?_getD, List.getElem?_eq_getElem hj]; rfl)
  refine ⟨fun a => big _ (by omega) (hms _ _) (hcp _ _), fun a => ⟨hcp _ _, (memL c r).length, (gdL c r).length, memF c r, gdF c r, by omega, by omega, (nI_t (by omega)).symm, (nI_t (by omega)).symm, fun i hi => ⟨by rw [hM2 i hi], (memF_mem hi).1, hmo i hi⟩, fun j hj => ⟨by rw [hG2 j hj], hgd j hj⟩, fun S ch W b1 b2 => ?_⟩⟩
  exact fin _ W (by omega) (mS_S (mS_S (mS_S (mS_L (mS_A (mS_A (mS_A (mS_A (mS_A (mS_rf g) (by omega)) (by omega)) (by omega)) (by omega)) (by omega)) (by omega))))) (by simp only [cp_fr]; exact h)
    (fun i hi => by simp only [rA_gS, rA_gL, rA_gA, Nat.reduceEqDiff, ↓reduceIte]; exact hM2 i hi) b1 (fun i hi => by simp only [rA_gS, rA_gL, rA_gA, Nat.reduceEqDiff, ↓reduceIte]; exact Int32.toInt_inj.mp (b2 i hi)) (by simp only [rS_gS, and_self, ↓reduceIte]) i0 0 rfl (Nat.zero_le _)
theorem ok_X10_given (l : Launch) (c : sm_G) : sm_spok l lay sm_mt 7 195 (sp_X10_given c) := Or.inr (Or.inr (Or.inr ⟨by decide, by decide, by
  rw [mt_195]
  exact sm_method (T := TX10_) v_cok v_lok v_ka v_tok_X10 mok_X10_given rfl (by unfold sm_rk; simp) (wf_X10_given c) (List.forall_mem_cons.mpr ⟨sm_spok_up (Nat.le_of_ble_eq_true rfl : 5 ≤ 6) (ok_X10_findGroup l c), List.forall_mem_cons.mpr ⟨sm_spok_up (Nat.le_of_ble_eq_true rfl : 1 ≤ 6) (ok_X10_isTooLarge l), List.forall_mem_cons.mpr ⟨sm_spok_up (Nat.le_of_ble_eq_true rfl : 6 ≤ 6) (ok_X10_match l c), fun _ h => absurd h List.not_mem_nil⟩⟩⟩) (b_X10_given c)⟩))
def sp_X10_best (c : sm_G) : sm_SP := fun as g K => match as with
  | [.ref p, .int r] => p = 53 ∧ CP c g ∧ (¬ opn c r → ∀ h, mS g h → CP c h → K (some (.int (sI 0))) h) ∧ (opn c r → 10 < (memL c (tn r)).length ∨ 20 < (gdL c (tn r)).length → ∀ h, mS g h → CP c h → K (some (.int (sI 1))) h) ∧
      (opn c r → ¬ (10 < (memL c (tn r)).length ∨ 20 < (gdL c (tn r)).length) → ∀ W i h, mS g h → CP c h → bstW c (memL c (tn r)).length (gdL c (tn r)).length (memF c (tn r)) (gdF c (tn r)) W → i < (memL c (tn r)).length → memF c (tn r) i = tn r → K (some (.int (oI ((W i).map (gdF c (tn r)))))) h)
  | _ => False
theorem wf_X10_best (c : sm_G) : sm_wf lay (yX10_best, cX10_best, 2, (some .int)) 2 false (sp_X10_best c) := by
  intro as g K h
  simp only [sp_X10_best] at h
  split at h
  · exact ⟨Nat.le_of_ble_eq_true rfl, by simp, rfl, fun _ => by obtain rfl := h.1; exact ⟨53, _, 10, [1, 1, 56, 57, 58, 59, 60, 61, 1, 1, 62, 63, 64, 65, 66, 67, 68, 69, 70, 71, 72, 73, 1, 74, 75, 76, 77, 1, 1, 78, 79, 1, 80, 1, 81, 1, 82, 83, 84, 85, 86, 1], TX10, 42, rfl, rfl, rfl⟩⟩
  · exact h.elim
set_option maxHeartbeats 4000000 in
set_option maxRecDepth 100000 in
theorem b_X10_best (c : sm_G) : sm_body lay NX10_best 2 0 (sm_cl [(194, sp_X10_isOpen c), (195, sp_X10_given c)]) (sp_X10_best c) := by
  intro K J S hW as g hs
  have hn := n_X10_best
  have hf := fd_all
  have ha := ar_all
  generalize NX10_best = N at hn hW
  generalize lay = L at hf ha hW
  obtain ⟨hS, hR⟩ := hW
  simp only [sp_X10_best] at hs
  split at hs
  case h_2 => exact hs.elim
  simp only [e_args, sm_pad, List.length_cons, List.length_nil, Nat.reduceAdd, Nat.reduceSub, List.replicate_succ, List.replicate_zero, List.cons_append, List.nil_append]
  rename_i p r
  obtain ⟨rfl, h, h1, h2, h3⟩ := hs
  have h0 : mS g (gS g 53 1000 (nI 0)) := mS_S (mS_rf g)
  have tr : ∀ s, mS (gS g 53 1000 (nI 0)) s → mS g s := fun s a => mS_tr h0 a
  apply hR 60
  simp (maxSteps := 10000000) (disch := omega) only [hS, hn, sm_eqs, hf, ha, sm_b0, Int.reduceToNat, ↓reduceIte, Nat.reduceEqDiff, true_and, and_true, List.length_nil, List.length_cons, Nat.reduceAdd, Nat.reduceLeDiff, Nat.zero_le, false_implies, true_implies, not_true_eq_false, not_false_eq_true, implies_true, Nat.reduceSub, Nat.reduceMul, Nat.reduceDiv, reduceCtorEq, tn_clamp, nI_t, tn_nI, nI_add, pk_mul, rS_gS, rS_gA, rS_gL, rA_gS, rA_gA, rA_gL, rL_gS, rL_gA, rL_gL, and_self, and_false, false_and, if_true, if_false, true_or, or_true, or_false, false_or, sm_in, eqI, sI_s, Int32.toInt_zero, Int.natCast_zero, Int.natCast_one, Int.cast_ofNat_Int, Int.reduceEq, Int.reduceLT, Int.reduceLE, Int.reduceNeg, Int.reduceNe, ne_eq, n_up, g_up, e_cat, fr_A, fr_O, fr_P, fr_L, sp_X10_isOpen, sp_X10_given, h, cp_fr]
  clear hn hf ha hS hR
  exact ⟨fun a => ⟨a, fun b s hs hc => h2 a b s (tr s hs) hc, fun b W i s hs hc e1 e2 e3 _ => h3 a b W i s (tr s hs) hc e1 e2 e3⟩, fun a => h1 a _ h0 h⟩
theorem ok_X10_best (l : Launch) (c : sm_G) : sm_spok l lay sm_mt 8 196 (sp_X10_best c) := Or.inr (Or.inr (Or.inr ⟨by decide, by decide, by
  rw [mt_196]
  exact sm_method (T := TX10_) v_cok v_lok v_ka v_tok_X10 mok_X10_best rfl (by unfold sm_rk; simp) (wf_X10_best c) (List.forall_mem_cons.mpr ⟨sm_spok_up (Nat.le_of_ble_eq_true rfl : 3 ≤ 7) (ok_X10_isOpen l c), List.forall_mem_cons.mpr ⟨sm_spok_up (Nat.le_of_ble_eq_true rfl : 7 ≤ 7) (ok_X10_given l c), fun _ h => absurd h List.not_mem_nil⟩⟩) (b_X10_best c)⟩))
def sp_X10_sum (c : sm_G) : sm_SP := fun as g K => match as with
  | [.ref p, .int r] => p = 53 ∧ CP c g ∧ (¬ opn c r → ∀ h, mS g h → CP c h → K (some (.int (sI 0))) h) ∧ (opn c r → 10 < (memL c (tn r)).length ∨ 20 < (gdL c (tn r)).length → ∀ h, mS g h → CP c h → K (some (.int (sI 1))) h) ∧
      (opn c r → ¬ (10 < (memL c (tn r)).length ∨ 20 < (gdL c (tn r)).length) → ∀ W h, mS g h → CP c h → bstW c (memL c (tn r)).length (gdL c (tn r)).length (memF c (tn r)) (gdF c (tn r)) W → K (some (.int (nI (wss c (memF c (tn r)) (gdF c (tn r)) W (memL c (tn r)).length)))) h)
  | _ => False
theorem wf_X10_sum (c : sm_G) : sm_wf lay (yX10_sum, cX10_sum, 2, (some .int)) 2 false (sp_X10_sum c) := by
  intro as g K h
  simp only [sp_X10_sum] at h
  split at h
  · exact ⟨Nat.le_of_ble_eq_true rfl, by simp, rfl, fun _ => by obtain rfl := h.1; exact ⟨53, _, 10, [1, 1, 56, 57, 58, 59, 60, 61, 1, 1, 62, 63, 64, 65, 66, 67, 68, 69, 70, 71, 72, 73, 1, 74, 75, 76, 77, 1, 1, 78, 79, 1, 80, 1, 81, 1, 82, 83, 84, 85, 86, 1], TX10, 42, rfl, rfl, rfl⟩⟩
  · exact h.elim
set_option maxHeartbeats 4000000 in
set_option maxRecDepth 100000 in
theorem b_X10_sum (c : sm_G) : sm_body lay NX10_sum 2 0 (sm_cl [(194, sp_X10_isOpen c), (195, sp_X10_given c)]) (sp_X10_sum c) := by
  intro K J S hW as g hs
  have hn := n_X10_sum
  have hf := fd_all
  have ha := ar_all
  generalize NX10_sum = N at hn hW
  generalize lay = L at hf ha hW
  obtain ⟨hS, hR⟩ := hW
  simp only [sp_X10_sum] at hs
  split at hs
  case h_2 => exact hs.elim
  simp only [e_args, sm_pad, List.length_cons, List.length_nil, Nat.reduceAdd, Nat.reduceSub, List.replicate_succ, List.replicate_zero, List.cons_append, List.nil_append]
  rename_i p r
  obtain ⟨rfl, h, h1, h2, h3⟩ := hs
  have h0 : mS g (gS g 53 1000 (nI 0)) := mS_S (mS_rf g)
  have tr : ∀ s, mS (gS g 53 1000 (nI 0)) s → mS g s := fun s a => mS_tr h0 a
  apply hR 60
  simp (maxSteps := 10000000) (disch := omega) only [hS, hn, sm_eqs, hf, ha, sm_b0, Int.reduceToNat, ↓reduceIte, Nat.reduceEqDiff, true_and, and_true, List.length_nil, List.length_cons, Nat.reduceAdd, Nat.reduceLeDiff, Nat.zero_le, false_implies, true_implies, not_true_eq_false, not_false_eq_true, implies_true, Nat.reduceSub, Nat.reduceMul, Nat.reduceDiv, reduceCtorEq, tn_clamp, nI_t, tn_nI, nI_add, pk_mul, rS_gS, rS_gA, rS_gL, rA_gS, rA_gA, rA_gL, rL_gS, rL_gA, rL_gL, and_self, and_false, false_and, if_true, if_false, true_or, or_true, or_false, false_or, sm_in, eqI, sI_s, Int32.toInt_zero, Int.natCast_zero, Int.natCast_one, Int.cast_ofNat_Int, Int.reduceEq, Int.reduceLT, Int.reduceLE, Int.reduceNeg, Int.reduceNe, ne_eq, n_up, g_up, e_cat, fr_A, fr_O, fr_P, fr_L, sp_X10_isOpen, sp_X10_given, h, cp_fr]
  clear hn hf ha hS hR
  have hn2 := CP_n h
  exact ⟨fun a => ⟨a, fun b s hs hc => h2 a b s (tr s hs) hc, fun b W i s hs hc e1 e2 e3 e4 => ⟨fun z => by
    exfalso
    rcases oI_cases hn2.2.2.1 e1 e2 with ⟨_, q⟩ | ⟨j, _, q, q2⟩
    · rw [q] at z; exact absurd z (by decide)
    · rw [q, nI_t (by omega)] at z; omega, fun _ => by rw [Int32.toInt_inj.mp e4]; exact h3 a b W s (tr s hs) hc e1⟩⟩, fun a => h1 a _ h0 h⟩
theorem ok_X10_sum (l : Launch) (c : sm_G) : sm_spok l lay sm_mt 8 197 (sp_X10_sum c) := Or.inr (Or.inr (Or.inr ⟨by decide, by decide, by
  rw [mt_197]
  exact sm_method (T := TX10_) v_cok v_lok v_ka v_tok_X10 mok_X10_sum rfl (by unfold sm_rk; simp) (wf_X10_sum c) (List.forall_mem_cons.mpr ⟨sm_spok_up (Nat.le_of_ble_eq_true rfl : 3 ≤ 7) (ok_X10_isOpen l c), List.forall_mem_cons.mpr ⟨sm_spok_up (Nat.le_of_ble_eq_true rfl : 7 ≤ 7) (ok_X10_given l c), fun _ h => absurd h List.not_mem_nil⟩⟩) (b_X10_sum c)⟩))
def sp_X10_also (c : sm_G) : sm_SP := fun as g K => match as with
  | [.ref p, .int r] => p = 53 ∧ CP c g ∧ (¬ opn c r → ∀ h, mS g h → CP c h → K (some (.int (sI 0))) h) ∧ (opn c r → 10 < (memL c (tn r)).length ∨ 20 < (gdL c (tn r)).length → ∀ h, mS g h → CP c h → K (some (.int (sI 1))) h) ∧
      (opn c r → ¬ (10 < (memL c (tn r)).length ∨ 20 < (gdL c (tn r)).length) → ∀ W i h, mS g h → CP c h → bstW c (memL c (tn r)).length (gdL c (tn r)).length (memF c (tn r)) (gdF c (tn r)) W → i < (memL c (tn r)).length → memF c (tn r) i = tn r → (W i = none → K (some (.int (sI 0))) h) ∧ (∀ j, W i = some j → K (some (.int (nI (alsC c (tn r) (gdF c (tn r) j))))) h))
  | _ => False
theorem wf_X10_also (c : sm_G) : sm_wf lay (yX10_also, cX10_also, 6, (some .int)) 2 false (sp_X10_also c) := by
  intro as g K h
  simp only [sp_X10_also] at h
  split at h
  · exact ⟨Nat.le_of_ble_eq_true rfl, by simp, rfl, fun _ => by obtain rfl := h.1; exact ⟨53, _, 10, [1, 1, 56, 57, 58, 59, 60, 61, 1, 1, 62, 63, 64, 65, 66, 67, 68, 69, 70, 71, 72, 73, 1, 74, 75, 76, 77, 1, 1, 78, 79, 1, 80, 1, 81, 1, 82, 83, 84, 85, 86, 1], TX10, 42, rfl, rfl, rfl⟩⟩
  · exact h.elim
set_option maxHeartbeats 4000000 in
set_option maxRecDepth 100000 in
theorem b_X10_also (c : sm_G) : sm_body lay NX10_also 6 0 (sm_cl [(194, sp_X10_isOpen c), (195, sp_X10_given c), (185, sp_X10_strengthOf c), (182, sp_X10_isFitIn c)]) (sp_X10_also c) := by
  intro K J S hW as g hs
  have hn := n_X10_also
  have hf := fd_all
  have ha := ar_all
  generalize NX10_also = N at hn hW
  generalize lay = L at hf ha hW
  obtain ⟨hS, hR⟩ := hW
  simp only [sp_X10_also] at hs
  split at hs
  case h_2 => exact hs.elim
  simp only [e_args, sm_pad, List.length_cons, List.length_nil, Nat.reduceAdd, Nat.reduceSub, List.replicate_succ, List.replicate_zero, List.cons_append, List.nil_append]
  rename_i p r
  obtain ⟨rfl, h, h1, h2, h3⟩ := hs
  have hn2 := CP_n h
  have h0 : mS g (gS g 53 1000 (nI 0)) := mS_S (mS_rf g)
  have tr : ∀ s, mS (gS g 53 1000 (nI 0)) s → mS g s := fun s a => mS_tr h0 a
  have fr := fun h9 => okR_60 (r := r) h.1.2.1.2.2.2.2.1 h9
  have loop : okR c r → ∀ t0, t0 < nT c → ∀ s, CP c s → K (some (.int (nI (alsC c (tn r) t0)))) s → ∀ m t, m = nT c - t → t ≤ nT c → ∀ n, n = cnt (fun t => dc (ftC c (tn r) t ∧ (stC c (tn r) t0).toInt ≤ (stC c (tn r) t).toInt)) t → J 40 [some (.ref 53), some (.int r), some (.int (nI t0)), some (.int (stC c (tn r) t0)), some (.int (nI n)), some (.int (nI t))] [] s := by
    intro ho t0 ht0 s hcp hK m
    have hrr := fr ho
    have hr60 : sm_in r 60 := hrr
    have ht0 := hcp.2.2.2.1.1
    clear h1 h2 h3
    have eA : alsC c (tn r) t0 = cnt (fun t => dc (ftC c (tn r) t ∧ (stC c (tn r) t0).toInt ≤ (stC c (tn r) t).toInt)) (nT c) := by
      unfold alsC
      have h60 : (60 : Nat) = nT c + (60 - nT c) := by omega
      rw [h60, cnt_app, cnt_none (60 - nT c) (fun i hi => dc_f.mpr (fun a => by have := a.1; omega))]
      refine (Nat.add_zero _).trans (cnt_congr _ (fun t ht => ?_))
      show dc _ = dc _
      by_cases e : ftC c (tn r) t ∧ (stC c (tn r) t0).toInt ≤ (stC c (tn r) t).toInt
      · rw [dc_t.mpr e]; exact dc_t.mpr ⟨ht, e.1.1, e.1.2, e.2⟩
      · rw [dc_f.mpr e]; exact dc_f.mpr (fun a => e ⟨⟨a.2.1, a.2.2.1⟩, a.2.2.2⟩)
    rw [eA] at hK
    induction m with
    | zero =>
      intro t hm ht n hn9
      obtain rfl : t = nT c := by omega
      rw [← hn9] at hK
      apply hR 60
      simp (maxSteps := 10000000) (disch := omega) only [hS, hn, sm_eqs, hf, ha, sm_b0, Int.reduceToNat, ↓reduceIte, Nat.reduceEqDiff, true_and, and_true, List.length_nil, List.length_cons, Nat.reduceAdd, Nat.reduceLeDiff, Nat.zero_le, false_implies, true_implies, not_true_eq_false, not_false_eq_true, implies_true, Nat.reduceSub, Nat.reduceMul, Nat.reduceDiv, reduceCtorEq, tn_clamp, nI_t, tn_nI, nI_add, pk_mul, rS_gS, rS_gA, rS_gL, rA_gS, rA_gA, rA_gL, rL_gS, rL_gA, rL_gL, and_self, and_false, false_and, if_true, if_false, true_or, or_true, or_false, false_or, sm_in, eqI, sI_s, Int32.toInt_zero, Int.natCast_zero, Int.natCast_one, Int.cast_ofNat_Int, Int.reduceEq, Int.reduceLT, Int.reduceLE, Int.reduceNeg, Int.reduceNe, ne_eq, n_up, g_up, e_cat, fr_A, fr_O, fr_P, fr_L, sp_X10_isOpen, sp_X10_given, sp_X10_strengthOf, sp_X10_isFitIn, ht0]
      repeat' (first | (refine And.intro ?_ ?_) | (intro _))
      all_goals (first | with_reducible assumption | omega | (exfalso; omega))
    | succ m ih =>
      intro t hm ht n hn9
      have hko : okT c (nI t) := by unfold okT; rw [nI_t (by omega)]; omega
      have ih := fun n hn => ih (t + 1) (by omega) (by omega) n hn
      have hcs : cnt (fun t => dc (ftC c (tn r) t ∧ (stC c (tn r) t0).toInt ≤ (stC c (tn r) t).toInt)) (t + 1) = n + (if dc (ftC c (tn r) t ∧ (stC c (tn r) t0).toInt ≤ (stC c (tn r) t).toInt) = true then 1 else 0) := by rw [hn9]; rfl
      rw [hcs] at ih
      have e1 : ftC c (tn r) t → (stC c (tn r) t0).toInt ≤ (stC c (tn r) t).toInt → J 40 [some (.ref 53), some (.int r), some (.int (nI t0)), some (.int (stC c (tn r) t0)), some (.int (nI (n + 1))), some (.int (nI (t + 1)))] [] s := fun a b => ih _ (by rw [if_pos (dc_t.mpr ⟨a, b⟩)])
      have e0 : ¬ (ftC c (tn r) t ∧ (stC c (tn r) t0).toInt ≤ (stC c (tn r) t).toInt) → J 40 [some (.ref 53), some (.int r), some (.int (nI t0)), some (.int (stC c (tn r) t0)), some (.int (nI (n + 0))), some (.int (nI (t + 1)))] [] s := fun a => ih _ (by rw [if_neg (fun b => a (dc_t.mp b))])
      clear ih hcs hK eA
      apply hR 60
      simp (maxSteps := 10000000) (disch := omega) only [hS, hn, sm_eqs, hf, ha, sm_b0, Int.reduceToNat, ↓reduceIte, Nat.reduceEqDiff, true_and, and_true, List.length_nil, List.length_cons, Nat.reduceAdd, Nat.reduceLeDiff, Nat.zero_le, false_implies, true_implies, not_true_eq_false, not_false_eq_true, implies_true, Nat.reduceSub, Nat.reduceMul, Nat.reduceDiv, reduceCtorEq, tn_clamp, nI_t, tn_nI, nI_add, pk_mul, rS_gS, rS_gA, rS_gL, rA_gS, rA_gA, rA_gL, rL_gS, rL_gA, rL_gL, and_self, and_false, false_and, if_true, if_false, true_or, or_true, or_false, false_or, sm_in, eqI, sI_s, Int32.toInt_zero, Int.natCast_zero, Int.natCast_one, Int.cast_ofNat_Int, Int.reduceEq, Int.reduceLT, Int.reduceLE, Int.reduceNeg, Int.reduceNe, ne_eq, n_up, g_up, e_cat, fr_A, fr_O, fr_P, fr_L, sp_X10_isOpen, sp_X10_given, sp_X10_strengthOf, sp_X10_isFitIn, ht0, hcp, hko, hr60]
      clear hn hf ha hS hR
      exact ⟨fun _ => ⟨hrr, fun a => ⟨hrr, fun b => e0 (fun z => absurd z.2 (by omega)), fun b => e1 a (by omega)⟩, fun a => e0 (fun z => a z.1)⟩, fun a => (a (by omega)).elim⟩
  apply hR 60
  simp (maxSteps := 10000000) (disch := omega) only [hS, hn, sm_eqs, hf, ha, sm_b0, Int.reduceToNat, ↓reduceIte, Nat.reduceEqDiff, true_and, and_true, List.length_nil, List.length_cons, Nat.reduceAdd, Nat.reduceLeDiff, Nat.zero_le, false_implies, true_implies, not_true_eq_false, not_false_eq_true, implies_true, Nat.reduceSub, Nat.reduceMul, Nat.reduceDiv, reduceCtorEq, tn_clamp, nI_t, tn_nI, nI_add, pk_mul, rS_gS, rS_gA, rS_gL, rA_gS, rA_gA, rA_gL, rL_gS, rL_gA, rL_gL, and_self, and_false, false_and, if_true, if_false, true_or, or_true, or_false, false_or, sm_in, eqI, sI_s, Int32.toInt_zero, Int.natCast_zero, Int.natCast_one, Int.cast_ofNat_Int, Int.reduceEq, Int.reduceLT, Int.reduceLE, Int.reduceNeg, Int.reduceNe, ne_eq, n_up, g_up, e_cat, fr_A, fr_O, fr_P, fr_L, sp_X10_isOpen, sp_X10_given, sp_X10_strengthOf, sp_X10_isFitIn, h, cp_fr]
  clear hn hf ha hS hR
  refine ⟨fun a => ⟨a, fun b s hs hc => h2 a b s (tr s hs) hc, fun b W i s hs hc e1 e2 e3 e4 => ?_⟩, fun a => h1 a _ h0 h⟩
  have h39 := h3 a b W i s (tr s hs) hc e1 e2 e3
  rcases oI_cases hn2.2.2.1 e1 e2 with ⟨q0, q⟩ | ⟨j, q0, q, q2⟩
  · rw [q]
    exact ⟨fun _ => h39.1 q0, fun z => absurd (by decide : (sI 0).toInt < 0) z⟩
  · rw [q]
    have hko : okT c (nI (gdF c (tn r) j)) := by unfold okT; rw [nI_t (by omega)]; omega
    refine ⟨fun z => ?_, fun _ => ⟨hc, fr a.1, hko, ?_⟩⟩
    · rw [nI_t (by omega)] at z; omega
    · rw [tn_nI (by omega)]
      exact loop a.1 _ q2 s hc (h39.2 j q0) _ 0 rfl (Nat.zero_le _) 0 rfl
theorem ok_X10_also (l : Launch) (c : sm_G) : sm_spok l lay sm_mt 8 198 (sp_X10_also c) := Or.inr (Or.inr (Or.inr ⟨by decide, by decide, by
  rw [mt_198]
  exact sm_method (T := TX10_) v_cok v_lok v_ka v_tok_X10 mok_X10_also rfl (by unfold sm_rk; simp) (wf_X10_also c) (List.forall_mem_cons.mpr ⟨sm_spok_up (Nat.le_of_ble_eq_true rfl : 3 ≤ 7) (ok_X10_isOpen l c), List.forall_mem_cons.mpr ⟨sm_spok_up (Nat.le_of_ble_eq_true rfl : 7 ≤ 7) (ok_X10_given l c), List.forall_mem_cons.mpr ⟨sm_spok_up (Nat.le_of_ble_eq_true rfl : 2 ≤ 7) (ok_X10_strengthOf l c), List.forall_mem_cons.mpr ⟨sm_spok_up (Nat.le_of_ble_eq_true rfl : 4 ≤ 7) (ok_X10_isFitIn l c), fun _ h => absurd h List.not_mem_nil⟩⟩⟩⟩) (b_X10_also c)⟩))
def sp_X10_group (c : sm_G) : sm_SP := fun as g K => match as with
  | [.ref p, .int r, .int w] => p = 53 ∧ CP c g ∧ (¬ (opn c r ∧ 0 ≤ w.toInt ∧ w.toInt ≤ 1) → ∀ h, mS g h → CP c h → K (some (.int (sI 0))) h) ∧ (opn c r → w.toInt = 0 → ∀ h, mS g h → CP c h → K (some (.int (nI (memL c (tn r)).length))) h) ∧ (opn c r → w.toInt = 1 → ∀ h, mS g h → CP c h → K (some (.int (nI (gdL c (tn r)).length))) h)
  | _ => False
theorem wf_X10_group (c : sm_G) : sm_wf lay (yX10_group, cX10_group, 3, (some .int)) 3 false (sp_X10_group c) := by
  intro as g K h
  simp only [sp_X10_group] at h
  split at h
  · exact ⟨Nat.le_of_ble_eq_true rfl, by simp, rfl, fun _ => by obtain rfl := h.1; exact ⟨53, _, 10, [1, 1, 56, 57, 58, 59, 60, 61, 1, 1, 62, 63, 64, 65, 66, 67, 68, 69, 70, 71, 72, 73, 1, 74, 75, 76, 77, 1, 1, 78, 79, 1, 80, 1, 81, 1, 82, 83, 84, 85, 86, 1], TX10, 42, rfl, rfl, rfl⟩⟩
  · exact h.elim
set_option maxHeartbeats 4000000 in
set_option maxRecDepth 100000 in
theorem b_X10_group (c : sm_G) : sm_body lay NX10_group 3 0 (sm_cl [(194, sp_X10_isOpen c), (161, sp_X10_in), (190, sp_X10_findGroup c)]) (sp_X10_group c) := by
  intro K J S hW as g hs
  have hn := n_X10_group
  have hf := fd_all
  have ha := ar_all
  generalize NX10_group = N at hn hW
  generalize lay = L at hf ha hW
  obtain ⟨hS, hR⟩ := hW
  simp only [sp_X10_group] at hs
  split at hs
  case h_2 => exact hs.elim
  simp only [e_args, sm_pad, List.length_cons, List.length_nil, Nat.reduceAdd, Nat.reduceSub, List.replicate_succ, List.replicate_zero, List.cons_append, List.nil_append]
  rename_i p r w
  obtain ⟨rfl, h, h1, h2, h3⟩ := hs
  have h0 : mS g (gS g 53 1000 (nI 0)) := mS_S (mS_rf g)
  apply hR 60
  simp (maxSteps := 10000000) (disch := omega) only [hS, hn, sm_eqs, hf, ha, sm_b0, Int.reduceToNat, ↓reduceIte, Nat.reduceEqDiff, true_and, and_true, List.length_nil, List.length_cons, Nat.reduceAdd, Nat.reduceLeDiff, Nat.zero_le, false_implies, true_implies, not_true_eq_false, not_false_eq_true, implies_true, Nat.reduceSub, Nat.reduceMul, Nat.reduceDiv, reduceCtorEq, tn_clamp, nI_t, tn_nI, nI_add, pk_mul, rS_gS, rS_gA, rS_gL, rA_gS, rA_gA, rA_gL, rL_gS, rL_gA, rL_gL, and_self, and_false, false_and, if_true, if_false, true_or, or_true, or_false, false_or, sm_in, eqI, sI_s, Int32.toInt_zero, Int.natCast_zero, Int.natCast_one, Int.cast_ofNat_Int, Int.reduceEq, Int.reduceLT, Int.reduceLE, Int.reduceNeg, Int.reduceNe, ne_eq, n_up, g_up, e_cat, fr_A, fr_O, fr_P, fr_L, sp_X10_isOpen, sp_X10_in, sp_X10_findGroup, h, cp_fr]
  clear hn hf ha hS hR
  have ms : ∀ A B M G u v, mS g (gS (gS (gS (gA (gA (gA (gA g 72 A) 73 B) 74 M) 75 G) 53 1000 (nI 0)) 53 1027 u) 53 1028 v) := fun A B M G u v => mS_S (mS_S (mS_S (mS_A (mS_A (mS_A (mS_A (mS_rf g) (by omega)) (by omega)) (by omega)) (by omega))))
  have cp : ∀ A B M G u v, CP c (gS (gS (gS (gA (gA (gA (gA g 72 A) 73 B) 74 M) 75 G) 53 1000 (nI 0)) 53 1027 u) 53 1028 v) := fun A B M G u v => by simp only [cp_fr]; exact h
  exact ⟨fun a => ⟨fun b => ⟨a, fun A B M G _ _ => ⟨fun d => h2 a d _ (ms _ _ _ _ _ _) (cp _ _ _ _ _ _), fun d => h3 a (by omega) _ (ms _ _ _ _ _ _) (cp _ _ _ _ _ _)⟩⟩, fun b => h1 (fun d => b d.2) _ h0 h⟩, fun a => h1 (fun d => a d.1) _ h0 h⟩
theorem ok_X10_group (l : Launch) (c : sm_G) : sm_spok l lay sm_mt 6 199 (sp_X10_group c) := Or.inr (Or.inr (Or.inr ⟨by decide, by decide, by
  rw [mt_199]
  exact sm_method (T := TX10_) v_cok v_lok v_ka v_tok_X10 mok_X10_group rfl (by unfold sm_rk; simp) (wf_X10_group c) (List.forall_mem_cons.mpr ⟨sm_spok_up (Nat.le_of_ble_eq_true rfl : 3 ≤ 5) (ok_X10_isOpen l c), List.forall_mem_cons.mpr ⟨sm_spok_up (Nat.le_of_ble_eq_true rfl : 1 ≤ 5) (ok_X10_in l), List.forall_mem_cons.mpr ⟨sm_spok_up (Nat.le_of_ble_eq_true rfl : 5 ≤ 5) (ok_X10_findGroup l c), fun _ h => absurd h List.not_mem_nil⟩⟩⟩) (b_X10_group c)⟩))
