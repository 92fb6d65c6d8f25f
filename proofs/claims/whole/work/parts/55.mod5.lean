/-! The reference: a new report, a new thing. -/
def sp_X10_report (c : sm_G) : sm_SP := fun as g K => match as with
  | [.ref p, .int w] => p = 53 ∧ CP c g ∧ (nR c < 60 ∧ 1 ≤ w.toInt ∧ w.toInt ≤ 999 → ∀ h, mS g h → CP (rAddG c w) h → K (some (.int (nI (nR c)))) h) ∧ (¬ (nR c < 60 ∧ 1 ≤ w.toInt ∧ w.toInt ≤ 999) → ∀ h, mS g h → CP c h → K (some (.int (sI 0))) h)
  | _ => False
theorem wf_X10_report (c : sm_G) : sm_wf lay (yX10_report, cX10_report, 2, (some .int)) 2 false (sp_X10_report c) := by
  intro as g K h
  simp only [sp_X10_report] at h
  split at h
  · exact ⟨Nat.le_of_ble_eq_true rfl, by simp, rfl, fun _ => by obtain rfl := h.1; exact ⟨53, _, 10, [1, 1, 56, 57, 58, 59, 60, 61, 1, 1, 62, 63, 64, 65, 66, 67, 68, 69, 70, 71, 72, 73, 1, 74, 75, 76, 77, 1, 1, 78, 79, 1, 80, 1, 81, 1, 82, 83, 84, 85, 86, 1], TX10, 42, rfl, rfl, rfl⟩⟩
  · exact h.elim
set_option maxHeartbeats 4000000 in
set_option maxRecDepth 100000 in
theorem b_X10_report (c : sm_G) : sm_body lay NX10_report 2 0 (sm_cl [(161, sp_X10_in)]) (sp_X10_report c) := by
  intro K J S hW as g hs
  have hn := n_X10_report
  have hf := fd_all
  have ha := ar_all
  generalize NX10_report = N at hn hW
  generalize lay = L at hf ha hW
  obtain ⟨hS, hR⟩ := hW
  simp only [sp_X10_report] at hs
  split at hs
  case h_2 => exact hs.elim
  simp only [e_args, sm_pad, List.length_cons, List.length_nil, Nat.reduceAdd, Nat.reduceSub, List.replicate_succ, List.replicate_zero, List.cons_append, List.nil_append]
  rename_i p w
  obtain ⟨rfl, h, h1, h2⟩ := hs
  have hn2 := CP_n h
  have hq := h.2.2.1.1
  by_cases hc : nR c < 60 ∧ 1 ≤ w.toInt ∧ w.toInt ≤ 999
  · have hne : ¬ (nR c : Int) = 60 := by omega
    have en := rAdd_n c w hc.1
    have hm : (nI (nR c + 1) - nI 1) = nI (nR c) := by rw [pk_sub (by omega)]; rfl
    have h1 := h1 hc (gS (gS (gA g 69 (upd (rA g 69) (nR c) w)) 53 1000 (nI 0)) 53 1009 (nI (nR c + 1))) (mS_S (mS_S (mS_A (mS_rf g) (by omega)))) (by
      obtain ⟨i, cq, ⟨q1, q2, q3, q4, q5, q6, q7, q8⟩, ct, cc⟩ := h
      refine ⟨iv_rAdd i hc.1, cq, ⟨by rw [en]; rfl, q2, q3, q4, q5, fun r hr => ?_, fun r hr => ?_, fun r hr hr2 => ?_⟩, ct, cc⟩
      · rw [en] at hr
        show upd (rA g 69) (nR c) w r = upd (rA c 13) (nR c) w r
        by_cases e : r = nR c
        · rw [e, pk_us, pk_us]
        · rw [pk_un e, pk_un e]; exact q6 r (by omega)
      · rw [en] at hr
        show ((rA g 70 r).toInt = 0) = ((upd (rA c 14) (nR c) (nI 1) r).toInt = 1)
        by_cases e : r = nR c
        · rw [e, pk_us, q8 (nR c) (Nat.le_refl _) (by omega)]; exact propext ⟨fun _ => rfl, fun _ => rfl⟩
        · rw [pk_un e]; exact q7 r (by omega)
      · rw [en] at hr; exact q8 r (by omega) hr2)
    clear h2 h
    apply hR 90
    simp (maxSteps := 10000000) (disch := omega) only [hS, hn, sm_eqs, hf, ha, sm_b0, Int.reduceToNat, ↓reduceIte, Nat.reduceEqDiff, true_and, and_true, List.length_nil, List.length_cons, Nat.reduceAdd, Nat.reduceLeDiff, Nat.zero_le, false_implies, true_implies, not_true_eq_false, not_false_eq_true, implies_true, Nat.reduceSub, Nat.reduceMul, Nat.reduceDiv, reduceCtorEq, tn_clamp, nI_t, tn_nI, nI_add, pk_mul, rS_gS, rS_gA, rS_gL, rA_gS, rA_gA, rA_gL, rL_gS, rL_gA, rL_gL, and_self, and_false, false_and, if_true, if_false, true_or, or_true, or_false, false_or, sm_in, eqI, sI_s, Int32.toInt_zero, Int.natCast_zero, Int.natCast_one, Int.cast_ofNat_Int, Int.reduceEq, Int.reduceLT, Int.reduceLE, Int.reduceNeg, Int.reduceNe, ne_eq, n_up, g_up, e_cat, fr_A, fr_O, fr_P, fr_L, sp_X10_in, hq, hne, hm]
    clear hn hf ha hS hR
    repeat' (first | (with_reducible refine And.intro ?_ ?_) | (with_reducible intro _))
    all_goals (first | with_reducible assumption | omega | (exfalso; omega) | grind)
  · have h2 := h2 hc (gS g 53 1000 (nI 0)) (mS_S (mS_rf g)) h
    clear h1 h
    apply hR 90
    simp (maxSteps := 10000000) (disch := omega) only [hS, hn, sm_eqs, hf, ha, sm_b0, Int.reduceToNat, ↓reduceIte, Nat.reduceEqDiff, true_and, and_true, List.length_nil, List.length_cons, Nat.reduceAdd, Nat.reduceLeDiff, Nat.zero_le, false_implies, true_implies, not_true_eq_false, not_false_eq_true, implies_true, Nat.reduceSub, Nat.reduceMul, Nat.reduceDiv, reduceCtorEq, tn_clamp, nI_t, tn_nI, nI_add, pk_mul, rS_gS, rS_gA, rS_gL, rA_gS, rA_gA, rA_gL, rL_gS, rL_gA, rL_gL, and_self, and_false, false_and, if_true, if_false, true_or, or_true, or_false, false_or, sm_in, eqI, sI_s, Int32.toInt_zero, Int.natCast_zero, Int.natCast_one, Int.cast_ofNat_Int, Int.reduceEq, Int.reduceLT, Int.reduceLE, Int.reduceNeg, Int.reduceNe, ne_eq, n_up, g_up, e_cat, fr_A, fr_O, fr_P, fr_L, sp_X10_in, hq]
    clear hn hf ha hS hR
    repeat' (first | (with_reducible refine And.intro ?_ ?_) | (with_reducible intro _))
    all_goals (first | with_reducible assumption | omega | (exfalso; omega) | grind)
theorem ok_X10_report (l : Launch) (c : sm_G) : sm_spok l lay sm_mt 2 173 (sp_X10_report c) := Or.inr (Or.inr (Or.inr ⟨by decide, by decide, by
  rw [mt_173]
  exact sm_method (T := TX10_) v_cok v_lok v_ka v_tok_X10 mok_X10_report rfl (by unfold sm_rk; simp) (wf_X10_report c) (List.forall_mem_cons.mpr ⟨sm_spok_up (Nat.le_of_ble_eq_true rfl : 1 ≤ 1) (ok_X10_in l), fun _ h => absurd h List.not_mem_nil⟩) (b_X10_report c)⟩))
def sp_X10_thing (c : sm_G) : sm_SP := fun as g K => match as with
  | [.ref p, .int k, .int f, .int w, .int b] => p = 53 ∧ CP c g ∧ (w = nI 0 ∨ w = nI 1) ∧
      (nT c < 60 ∧ (0 ≤ k.toInt ∧ k.toInt < 6 ∧ 0 ≤ f.toInt ∧ f.toInt ≤ 999) ∧ (b.toInt = -1 ∨ hereC c b ∧ (rA c 16 (tn b)).toInt = 1) → ∀ h, mS g h → CP (tAddG c k f w b) h → K (some (.int (nI (nT c)))) h) ∧
      (¬ (nT c < 60 ∧ (0 ≤ k.toInt ∧ k.toInt < 6 ∧ 0 ≤ f.toInt ∧ f.toInt ≤ 999) ∧ (b.toInt = -1 ∨ hereC c b ∧ (rA c 16 (tn b)).toInt = 1)) → ∀ h, mS g h → CP c h → K (some (.int (sI 0))) h)
  | _ => False
theorem wf_X10_thing (c : sm_G) : sm_wf lay (yX10_thing, cX10_thing, 5, (some .int)) 5 false (sp_X10_thing c) := by
  intro as g K h
  simp only [sp_X10_thing] at h
  split at h
  · exact ⟨Nat.le_of_ble_eq_true rfl, by simp, rfl, fun _ => by obtain rfl := h.1; exact ⟨53, _, 10, [1, 1, 56, 57, 58, 59, 60, 61, 1, 1, 62, 63, 64, 65, 66, 67, 68, 69, 70, 71, 72, 73, 1, 74, 75, 76, 77, 1, 1, 78, 79, 1, 80, 1, 81, 1, 82, 83, 84, 85, 86, 1], TX10, 42, rfl, rfl, rfl⟩⟩
  · exact h.elim
set_option maxHeartbeats 4000000 in
set_option maxRecDepth 100000 in
theorem b_X10_thing (c : sm_G) : sm_body lay NX10_thing 5 0 (sm_cl [(161, sp_X10_in), (171, sp_X10_isBag c)]) (sp_X10_thing c) := by
  intro K J S hW as g hs
  have hn := n_X10_thing
  have hf := fd_all
  have ha := ar_all
  generalize NX10_thing = N at hn hW
  generalize lay = L at hf ha hW
  obtain ⟨hS, hR⟩ := hW
  simp only [sp_X10_thing] at hs
  split at hs
  case h_2 => exact hs.elim
  simp only [e_args, sm_pad, List.length_cons, List.length_nil, Nat.reduceAdd, Nat.reduceSub, List.replicate_succ, List.replicate_zero, List.cons_append, List.nil_append]
  rename_i p k f w b
  obtain ⟨rfl, h, hw, h1, h2⟩ := hs
  have hn2 := CP_n h
  have hq := h.2.2.2.1.1
  have hz : sm_zr 1 w = True := by rcases hw with rfl | rfl <;> simp [sm_eqs]
  by_cases hc : nT c < 60 ∧ (0 ≤ k.toInt ∧ k.toInt < 6 ∧ 0 ≤ f.toInt ∧ f.toInt ≤ 999) ∧ (b.toInt = -1 ∨ hereC c b ∧ (rA c 16 (tn b)).toInt = 1)
  · have hne : ¬ (nT c : Int) = 60 := by omega
    have en := tAdd_n c k f w b hc.1
    have hm : (nI (nT c + 1) - nI 1) = nI (nT c) := by rw [pk_sub (by omega)]; rfl
    have hcp : ∀ st : Int32, st = nI (if b.toInt = -1 then 0 else 1) → K (some (.int (nI (nT c)))) (gS (gS (gA (gA (gA (gA (gA g 60 (upd (rA g 60) (nT c) k)) 61 (upd (rA g 61) (nT c) f)) 62 (upd (rA g 62) (nT c) w)) 63 (upd (rA g 63) (nT c) st)) 64 (upd (rA g 64) (nT c) b)) 53 1000 (nI 0)) 53 1008 (nI (nT c + 1))) := fun st hst => h1 hc _ (mS_S (mS_S (mS_A (mS_A (mS_A (mS_A (mS_A (mS_rf g) (by omega)) (by omega)) (by omega)) (by omega)) (by omega)))) (by
      obtain ⟨i, cq, cr, ⟨q1, q2, q3, q4, q5, q6, q7, q8, q9, q10, q11, q12, q13⟩, cc⟩ := h
      obtain ⟨a16, a17, a18, a19, a20, a21, a22, a23⟩ := tAdd_A c k f w b
      have up : ∀ (F G : Nat → Int32) (v : Int32), (∀ t, t < nT c → F t = G t) → ∀ t, t < nT (tAddG c k f w b) → upd F (nT c) v t = upd G (nT c) v t := fun F G v hF t ht => by
        rw [en] at ht
        by_cases e : t = nT c
        · rw [e, pk_us, pk_us]
        · rw [pk_un e, pk_un e]; exact hF t (by omega)
      refine ⟨iv_tAdd i hc.1 hc.2.1 hw hc.2.2, cq, cr, ⟨by rw [en]; rfl, q2, up _ _ _ q3, up _ _ _ q4, up _ _ _ q5, fun t ht => ?_, up _ _ _ q7, fun t ht => ?_, fun t ht hy => ?_, fun t ht ht2 => ?_, q11, q12, q13⟩, cc⟩
      · rw [en] at ht
        show upd (rA g 63) (nT c) st t = _
        unfold whC; rw [a23, a19]
        by_cases e : t = nT c
        · rw [e, pk_us, pk_us, pk_us, if_pos sI_s.1]; exact hst
        · rw [pk_un e, pk_un e, pk_un e]; exact q6 t (by omega)
      · rw [en] at ht
        show rA g 65 t = _
        rw [a20]
        by_cases e : t = nT c
        · rw [e, pk_us]; exact q10 _ (Nat.le_refl _) (by omega)
        · rw [pk_un e]; exact q8 t (by omega)
      · rw [en] at ht
        unfold whyC at hy; rw [a23] at hy
        by_cases e : t = nT c
        · rw [e, pk_us] at hy; exact absurd sI_s.1 hy
        · rw [pk_un e] at hy
          have := q9 t (by omega) hy
          rw [a21, a22, a23, pk_un e, pk_un e, pk_un e]; exact this
      · rw [en] at ht; exact q10 t (by omega) ht2)
    have c0 : b.toInt = -1 → _ := fun e => hcp (nI 0) (by rw [if_pos e])
    have c1 : ¬ b.toInt = -1 → _ := fun e => hcp (nI 1) (by rw [if_neg e])
    clear h1 h2 hcp
    apply hR 90
    simp (maxSteps := 10000000) (disch := omega) only [hS, hn, sm_eqs, hf, ha, sm_b0, Int.reduceToNat, ↓reduceIte, Nat.reduceEqDiff, true_and, and_true, List.length_nil, List.length_cons, Nat.reduceAdd, Nat.reduceLeDiff, Nat.zero_le, false_implies, true_implies, not_true_eq_false, not_false_eq_true, implies_true, Nat.reduceSub, Nat.reduceMul, Nat.reduceDiv, reduceCtorEq, tn_clamp, nI_t, tn_nI, nI_add, pk_mul, rS_gS, rS_gA, rS_gL, rA_gS, rA_gA, rA_gL, rL_gS, rL_gA, rL_gL, and_self, and_false, false_and, if_true, if_false, true_or, or_true, or_false, false_or, sm_in, eqI, sI_s, Int32.toInt_zero, Int.natCast_zero, Int.natCast_one, Int.cast_ofNat_Int, Int.reduceEq, Int.reduceLT, Int.reduceLE, Int.reduceNeg, Int.reduceNe, ne_eq, n_up, g_up, e_cat, fr_A, fr_O, fr_P, fr_L, sp_X10_in, sp_X10_isBag, hq, hne, hm, hz, cp_fr, h]
    clear hn hf ha hS hR
    repeat' (first | (with_reducible refine And.intro ?_ ?_) | (with_reducible intro _))
    all_goals (first | with_reducible assumption | omega | (exfalso; omega) | grind)
  · have h2 := h2 hc (gS g 53 1000 (nI 0)) (mS_S (mS_rf g)) h
    clear h1
    apply hR 90
    simp (maxSteps := 10000000) (disch := omega) only [hS, hn, sm_eqs, hf, ha, sm_b0, Int.reduceToNat, ↓reduceIte, Nat.reduceEqDiff, true_and, and_true, List.length_nil, List.length_cons, Nat.reduceAdd, Nat.reduceLeDiff, Nat.zero_le, false_implies, true_implies, not_true_eq_false, not_false_eq_true, implies_true, Nat.reduceSub, Nat.reduceMul, Nat.reduceDiv, reduceCtorEq, tn_clamp, nI_t, tn_nI, nI_add, pk_mul, rS_gS, rS_gA, rS_gL, rA_gS, rA_gA, rA_gL, rL_gS, rL_gA, rL_gL, and_self, and_false, false_and, if_true, if_false, true_or, or_true, or_false, false_or, sm_in, eqI, sI_s, Int32.toInt_zero, Int.natCast_zero, Int.natCast_one, Int.cast_ofNat_Int, Int.reduceEq, Int.reduceLT, Int.reduceLE, Int.reduceNeg, Int.reduceNe, ne_eq, n_up, g_up, e_cat, fr_A, fr_O, fr_P, fr_L, sp_X10_in, sp_X10_isBag, hq, hz, cp_fr, h]
    clear hn hf ha hS hR
    repeat' (first | (with_reducible refine And.intro ?_ ?_) | (with_reducible intro _))
    all_goals (first | with_reducible assumption | omega | (exfalso; omega) | grind)
theorem ok_X10_thing (l : Launch) (c : sm_G) : sm_spok l lay sm_mt 4 172 (sp_X10_thing c) := Or.inr (Or.inr (Or.inr ⟨by decide, by decide, by
  rw [mt_172]
  exact sm_method (T := TX10_) v_cok v_lok v_ka v_tok_X10 mok_X10_thing rfl (by unfold sm_rk; simp) (wf_X10_thing c) (List.forall_mem_cons.mpr ⟨sm_spok_up (Nat.le_of_ble_eq_true rfl : 1 ≤ 3) (ok_X10_in l), List.forall_mem_cons.mpr ⟨sm_spok_up (Nat.le_of_ble_eq_true rfl : 3 ≤ 3) (ok_X10_isBag l c), fun _ h => absurd h List.not_mem_nil⟩⟩) (b_X10_thing c)⟩))
