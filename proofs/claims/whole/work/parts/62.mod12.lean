/-! The reference: proofs; all claims of a report withdrawn; a report closed. -/
def spE (sp : sm_G → sm_SP) : sm_SP := fun as g K => ∃ c, sp c as g K
theorem spok_E {l : Launch} {lay : List ((Nat × List Nat) ⊕ (Nat × Nat))} {mt : Nat → sm_R} {d mid : Nat} {sp : sm_G → sm_SP} (h1 : mid ≠ sm_mmax) (h2 : mid ≠ sm_mmin) (h : ∀ c, sm_spok l lay mt d mid (sp c)) : sm_spok l lay mt d mid (spE sp) := by
  refine Or.inr (Or.inr (Or.inr ⟨h1, h2, fun as g K hx => ?_, fun d' hd D ad cA sz as g K hx => ?_⟩))
  · obtain ⟨c, hc⟩ := hx
    rcases h c with q | q | q | q
    · exact absurd hc (q as g K)
    · exact absurd q.1 h1
    · exact absurd q.1 h2
    · exact q.2.2.1 as g K hc
  · obtain ⟨c, hc⟩ := hx
    rcases h c with q | q | q | q
    · exact absurd hc (q as g K)
    · exact absurd q.1 h1
    · exact absurd q.1 h2
    · exact q.2.2.2 d' hd D ad cA sz as g K hc
def sp_X10_prove (c : sm_G) : sm_SP := fun as g K => match as with
  | [.ref p, .int k, .int q, .int a] => p = 53 ∧ CP c g ∧ (¬ stdC c k → ∀ h, mS g h → CP c h → K (some (.int (nI 1))) h) ∧ (stdC c k → (¬ okQ c q → ∀ h, mS g h → CP c h → K (some (.int (nI 2))) h) ∧ (okQ c q → ((aC c 6 (rA c 26 (tn k)) q).toInt ≠ -1 → ∀ h, mS g h → CP c h → K (some (.int (nI 3))) h) ∧ ((aC c 6 (rA c 26 (tn k)) q).toInt = -1 →
      ((aC c 9 (rA c 27 (tn k)) q).toInt = -1 → ∀ h, mS g h → CP c h → K (some (.int (nI 4))) h) ∧ ((aC c 9 (rA c 27 (tn k)) q).toInt ≠ -1 → (a.toInt ≠ (aC c 9 (rA c 27 (tn k)) q).toInt → ∀ h, mS g h → CP (fin c (tn k) (nI 3)) h → K (some (.int (nI 5))) h) ∧ (a.toInt = (aC c 9 (rA c 27 (tn k)) q).toInt → ∀ h, mS g h → CP (gA c 28 (upd (rA c 28) (tn k) (nI 1))) h → K (some (.int (nI 0))) h)))))
  | _ => False
theorem wf_X10_prove (c : sm_G) : sm_wf lay (yX10_prove, cX10_prove, 5, (some .int)) 4 false (sp_X10_prove c) := by
  intro as g K h
  simp only [sp_X10_prove] at h
  split at h
  · exact ⟨Nat.le_of_ble_eq_true rfl, by simp, rfl, fun _ => by obtain rfl := h.1; exact ⟨53, _, 10, [1, 1, 56, 57, 58, 59, 60, 61, 1, 1, 62, 63, 64, 65, 66, 67, 68, 69, 70, 71, 72, 73, 1, 74, 75, 76, 77, 1, 1, 78, 79, 1, 80, 1, 81, 1, 82, 83, 84, 85, 86, 1], TX10, 42, rfl, rfl, rfl⟩⟩
  · exact h.elim
set_option maxHeartbeats 4000000 in
set_option maxRecDepth 100000 in
theorem b_X10_prove (c : sm_G) : sm_body lay NX10_prove 5 0 (sm_cl [(208, sp_X10_stands), (163, sp_X10_isQuestion c), (177, sp_X10_knows)]) (sp_X10_prove c) := by
  intro K J S hW as g hs
  have hn := n_X10_prove
  have hf := fd_all
  have ha := ar_all
  generalize NX10_prove = N at hn hW
  generalize lay = L at hf ha hW
  obtain ⟨hS, hR⟩ := hW
  simp only [sp_X10_prove] at hs
  split at hs
  case h_2 => exact hs.elim
  simp only [e_args, sm_pad, List.length_cons, List.length_nil, Nat.reduceAdd, Nat.reduceSub, List.replicate_succ, List.replicate_zero, List.cons_append, List.nil_append]
  rename_i p k q a
  obtain ⟨rfl, h, h1, h2⟩ := hs
  have hn2 := CP_n h
  obtain ⟨z, zn⟩ := CP_zM h
  have zf : ∀ v, zM (gS g 53 1000 v) := fun v => z
  have nf : ∀ v, mC (gS g 53 1000 v) = nC c := fun v => zn
  have sf : ∀ v j, stM (gS g 53 1000 v) j = stM g j := fun v j => rfl
  by_cases hst : stdC c k
  · have h2 := h2 hst
    have hst2 := hst
    unfold stdC at hst2
    obtain ⟨k, hk, rfl⟩ := ok_nI hst2.1
    rw [tn_nI (by omega)] at h2 hst2
    have hs := (CP_stM h hk).mpr hst2.2
    obtain ⟨⟨r, r1, r2⟩, ⟨t, t1, t2⟩, _⟩ := h.1.2.2.2.2.2.1 k hk
    rw [r2, t2] at h2
    have e80 := h.2.2.2.2.2.1 k hk
    have e81 := h.2.2.2.2.2.2.1 k hk
    rw [r2] at e80; rw [t2] at e81
    obtain ⟨g2, g3⟩ := h2
    have g2 := fun a => g2 a (gS g 53 1000 (nI 0)) (mS_S (mS_rf g)) h
    clear h1
    by_cases hq : okQ c q
    · obtain ⟨g4, g5⟩ := g3 hq
      obtain ⟨q, hq2, rfl⟩ := ok_nI hq
      rw [aC_nI _ _ (by omega) (by omega)] at g4 g5
      rw [aC_nI _ _ (by omega) (by omega)] at g5
      have e6 := h.2.2.1.2.1 r q (by omega) (by omega)
      have e9 := h.2.2.1.2.2.1 t q (by omega) (by omega)
      have g4 := fun a => g4 a (gS g 53 1000 (nI 0)) (mS_S (mS_rf g)) h
      have g6 := fun a b => (g5 a).1 b (gS g 53 1000 (nI 0)) (mS_S (mS_rf g)) h
      have g7 := fun a b x => ((g5 a).2 b).1 x (gS (gA g 82 (upd (rA g 82) k (nI 3))) 53 1000 (nI 0)) (mS_S (mS_A (mS_rf g) (by omega))) (CP_fin h hk hst2.2 (by decide))
      have g8 := fun a b x => ((g5 a).2 b).2 x (gS (gA g 82 (upd (rA g 82) k (nI 1))) 53 1000 (nI 0)) (mS_S (mS_A (mS_rf g) (by omega))) (CP_prv h hk hst2.2)
      clear g2 g3 g5
      apply hR 90
      simp (maxSteps := 10000000) (disch := omega) only [hS, hn, sm_eqs, hf, ha, sm_b0, Int.reduceToNat, ↓reduceIte, Nat.reduceEqDiff, true_and, and_true, List.length_nil, List.length_cons, Nat.reduceAdd, Nat.reduceLeDiff, Nat.zero_le, false_implies, true_implies, not_true_eq_false, not_false_eq_true, implies_true, Nat.reduceSub, Nat.reduceMul, Nat.reduceDiv, reduceCtorEq, tn_clamp, nI_t, tn_nI, nI_add, pk_mul, rS_gS, rS_gA, rS_gL, rA_gS, rA_gA, rA_gL, rL_gS, rL_gA, rL_gL, and_self, and_false, false_and, if_true, if_false, true_or, or_true, or_false, false_or, sm_in, eqI, sI_s, Int32.toInt_zero, Int.natCast_zero, Int.natCast_one, Int.cast_ofNat_Int, Int.reduceEq, Int.reduceLT, Int.reduceLE, Int.reduceNeg, Int.reduceNe, ne_eq, n_up, g_up, e_cat, fr_A, fr_O, fr_P, fr_L, sp_X10_stands, sp_X10_isQuestion, sp_X10_knows, zf, nf, sf, hs, h, cp_fr, hq, e80, e81, e6, e9]
      clear hn hf ha hS hR
      grind
    · have g2 := g2 hq
      clear g3
      apply hR 90
      simp (maxSteps := 10000000) (disch := omega) only [hS, hn, sm_eqs, hf, ha, sm_b0, Int.reduceToNat, ↓reduceIte, Nat.reduceEqDiff, true_and, and_true, List.length_nil, List.length_cons, Nat.reduceAdd, Nat.reduceLeDiff, Nat.zero_le, false_implies, true_implies, not_true_eq_false, not_false_eq_true, implies_true, Nat.reduceSub, Nat.reduceMul, Nat.reduceDiv, reduceCtorEq, tn_clamp, nI_t, tn_nI, nI_add, pk_mul, rS_gS, rS_gA, rS_gL, rA_gS, rA_gA, rA_gL, rL_gS, rL_gA, rL_gL, and_self, and_false, false_and, if_true, if_false, true_or, or_true, or_false, false_or, sm_in, eqI, sI_s, Int32.toInt_zero, Int.natCast_zero, Int.natCast_one, Int.cast_ofNat_Int, Int.reduceEq, Int.reduceLT, Int.reduceLE, Int.reduceNeg, Int.reduceNe, ne_eq, n_up, g_up, e_cat, fr_A, fr_O, fr_P, fr_L, sp_X10_stands, sp_X10_isQuestion, sp_X10_knows, zf, nf, sf, hs, h, cp_fr, hq]
      clear hn hf ha hS hR
      repeat' (first | (refine And.intro ?_ ?_) | (intro _))
      all_goals (first | with_reducible assumption | omega | (exfalso; omega))
  · have h1 := h1 hst (gS g 53 1000 (nI 0)) (mS_S (mS_rf g)) h
    have hno : ¬ (0 ≤ k.toInt ∧ k.toInt < (nC c : Int) ∧ stM g (tn k)) := fun ⟨a, b, d⟩ => hst (by
      unfold stdC okC
      exact ⟨⟨a, b⟩, (CP_stM h (by unfold tn; omega)).mp d⟩)
    clear h2
    apply hR 60
    simp (maxSteps := 10000000) (disch := omega) only [hS, hn, sm_eqs, hf, ha, sm_b0, Int.reduceToNat, ↓reduceIte, Nat.reduceEqDiff, true_and, and_true, List.length_nil, List.length_cons, Nat.reduceAdd, Nat.reduceLeDiff, Nat.zero_le, false_implies, true_implies, not_true_eq_false, not_false_eq_true, implies_true, Nat.reduceSub, Nat.reduceMul, Nat.reduceDiv, reduceCtorEq, tn_clamp, nI_t, tn_nI, nI_add, pk_mul, rS_gS, rS_gA, rS_gL, rA_gS, rA_gA, rA_gL, rL_gS, rL_gA, rL_gL, and_self, and_false, false_and, if_true, if_false, true_or, or_true, or_false, false_or, sm_in, eqI, sI_s, Int32.toInt_zero, Int.natCast_zero, Int.natCast_one, Int.cast_ofNat_Int, Int.reduceEq, Int.reduceLT, Int.reduceLE, Int.reduceNeg, Int.reduceNe, ne_eq, n_up, g_up, e_cat, fr_A, fr_O, fr_P, fr_L, sp_X10_stands, sp_X10_isQuestion, sp_X10_knows, zf, nf, sf]
    clear hn hf ha hS hR
    exact ⟨fun a => absurd a hno, fun _ => h1⟩
theorem ok_X10_prove (l : Launch) (c : sm_G) : sm_spok l lay sm_mt 3 211 (sp_X10_prove c) := Or.inr (Or.inr (Or.inr ⟨by decide, by decide, by
  rw [mt_211]
  exact sm_method (T := TX10_) v_cok v_lok v_ka v_tok_X10 mok_X10_prove rfl (by unfold sm_rk; simp) (wf_X10_prove c) (List.forall_mem_cons.mpr ⟨sm_spok_up (Nat.le_of_ble_eq_true rfl : 2 ≤ 2) (ok_X10_stands l), List.forall_mem_cons.mpr ⟨sm_spok_up (Nat.le_of_ble_eq_true rfl : 2 ≤ 2) (ok_X10_isQuestion l c), List.forall_mem_cons.mpr ⟨sm_spok_up (Nat.le_of_ble_eq_true rfl : 1 ≤ 2) (ok_X10_knows l), fun _ h => absurd h List.not_mem_nil⟩⟩⟩) (b_X10_prove c)⟩))
def sp_X10_withdrawAll (c : sm_G) : sm_SP := fun as g K => match as with
  | [.ref p, .int r] => p = 53 ∧ CP c g ∧ (∀ F, CP (fins c (fun k => (rA c 26 k).toInt == r.toInt) (nI 2) (nC c)) (gA g 82 F) → K none (gA g 82 F))
  | _ => False
theorem wf_X10_withdrawAll (c : sm_G) : sm_wf lay (yX10_withdrawAll, cX10_withdrawAll, 3, none) 2 false (sp_X10_withdrawAll c) := by
  intro as g K h
  simp only [sp_X10_withdrawAll] at h
  split at h
  · exact ⟨Nat.le_of_ble_eq_true rfl, by simp, rfl, fun _ => by obtain rfl := h.1; exact ⟨53, _, 10, [1, 1, 56, 57, 58, 59, 60, 61, 1, 1, 62, 63, 64, 65, 66, 67, 68, 69, 70, 71, 72, 73, 1, 74, 75, 76, 77, 1, 1, 78, 79, 1, 80, 1, 81, 1, 82, 83, 84, 85, 86, 1], TX10, 42, rfl, rfl, rfl⟩⟩
  · exact h.elim
set_option maxHeartbeats 4000000 in
set_option maxRecDepth 100000 in
theorem b_X10_withdrawAll (c : sm_G) : sm_body lay NX10_withdrawAll 3 4 (sm_cl [(208, sp_X10_stands)]) (sp_X10_withdrawAll c) := by
  intro K J S hW as g hs
  have hn := n_X10_withdrawAll
  have hf := fd_all
  have ha := ar_all
  generalize NX10_withdrawAll = N at hn hW
  generalize lay = L at hf ha hW
  obtain ⟨hS, hR⟩ := hW
  simp only [sp_X10_withdrawAll] at hs
  split at hs
  case h_2 => exact hs.elim
  simp only [e_args, sm_pad, List.length_cons, List.length_nil, Nat.reduceAdd, Nat.reduceSub, List.replicate_succ, List.replicate_zero, List.cons_append, List.nil_append]
  rename_i p r
  obtain ⟨rfl, h, hs⟩ := hs
  have hn2 := CP_n h
  obtain ⟨z, zn⟩ := CP_zM h
  have zc := h.2.2.2.2.1
  have loop : ∀ m k, m = nC c - k → k ≤ nC c → ∀ F, CP (fins c (fun k => (rA c 26 k).toInt == r.toInt) (nI 2) k) (gA g 82 F) → J 2 [some (.ref 53), some (.int r), some (.int (nI k))] [] (gA g 82 F) := by
    intro m
    induction m with
    | zero =>
      intro k hm hk F hF
      obtain rfl : k = nC c := by omega
      have hs := hs F hF
      apply hR 60
      simp (maxSteps := 10000000) (disch := omega) only [hS, hn, sm_eqs, hf, ha, sm_b0, Int.reduceToNat, ↓reduceIte, Nat.reduceEqDiff, true_and, and_true, List.length_nil, List.length_cons, Nat.reduceAdd, Nat.reduceLeDiff, Nat.zero_le, false_implies, true_implies, not_true_eq_false, not_false_eq_true, implies_true, Nat.reduceSub, Nat.reduceMul, Nat.reduceDiv, reduceCtorEq, tn_clamp, nI_t, tn_nI, nI_add, pk_mul, rS_gS, rS_gA, rS_gL, rA_gS, rA_gA, rA_gL, rL_gS, rL_gA, rL_gL, and_self, and_false, false_and, if_true, if_false, true_or, or_true, or_false, false_or, sm_in, eqI, sI_s, Int32.toInt_zero, Int.natCast_zero, Int.natCast_one, Int.cast_ofNat_Int, Int.reduceEq, Int.reduceLT, Int.reduceLE, Int.reduceNeg, Int.reduceNe, ne_eq, n_up, g_up, e_cat, fr_A, fr_O, fr_P, fr_L, sp_X10_stands, zc]
      repeat' (first | (refine And.intro ?_ ?_) | (intro _))
      all_goals (first | with_reducible assumption | omega | (exfalso; omega))
    | succ m ih =>
      intro k hm hk F hF
      have ih := ih (k + 1) (by omega) (by omega)
      simp only [fins] at ih
      have hk2 : k < nC (fins c (fun k => (rA c 26 k).toInt == r.toInt) (nI 2) k) := by rw [fins_C]; omega
      have e80 := h.2.2.2.2.2.1 k (by omega)
      have hst := CP_stM hF hk2
      have zf : zM (gA g 82 F) := z
      have nf : mC (gA g 82 F) = nC c := zn
      have e1 : (rA c 26 k).toInt = r.toInt → stM (gA g 82 F) k → J 2 [some (.ref 53), some (.int r), some (.int (nI (k + 1)))] [] (gA g 82 (upd F k (nI 2))) := fun a b => by
        have := ih (upd F k (nI 2)) (by
          rw [if_pos (by rw [a]; simp)]
          have q := CP_fin hF hk2 (hst.mp b) (show 1 < (nI 2).toInt ∧ (nI 2).toInt ≤ 5 by decide)
          rw [rA_gA, if_pos rfl, g_up.2.1] at q
          exact q)
        exact this
      have e0 : ¬ ((rA c 26 k).toInt = r.toInt ∧ stM (gA g 82 F) k) → J 2 [some (.ref 53), some (.int r), some (.int (nI (k + 1)))] [] (gA g 82 F) := fun a => by
        refine ih F ?_
        by_cases b : ((rA c 26 k).toInt == r.toInt) = true
        · rw [if_pos b]
          have hne : ¬ (rA (fins c (fun k => (rA c 26 k).toInt == r.toInt) (nI 2) k) 28 k).toInt ≤ 1 := fun hx => a ⟨by simpa using b, hst.mpr hx⟩
          unfold fin; rw [if_neg hne]; exact hF
        · rw [if_neg b]; exact hF
      clear ih hs
      apply hR 60
      simp (maxSteps := 10000000) (disch := omega) only [hS, hn, sm_eqs, hf, ha, sm_b0, Int.reduceToNat, ↓reduceIte, Nat.reduceEqDiff, true_and, and_true, List.length_nil, List.length_cons, Nat.reduceAdd, Nat.reduceLeDiff, Nat.zero_le, false_implies, true_implies, not_true_eq_false, not_false_eq_true, implies_true, Nat.reduceSub, Nat.reduceMul, Nat.reduceDiv, reduceCtorEq, tn_clamp, nI_t, tn_nI, nI_add, pk_mul, rS_gS, rS_gA, rS_gL, rA_gS, rA_gA, rA_gL, rL_gS, rL_gA, rL_gL, and_self, and_false, false_and, if_true, if_false, true_or, or_true, or_false, false_or, sm_in, eqI, sI_s, Int32.toInt_zero, Int.natCast_zero, Int.natCast_one, Int.cast_ofNat_Int, Int.reduceEq, Int.reduceLT, Int.reduceLE, Int.reduceNeg, Int.reduceNe, ne_eq, n_up, g_up, e_cat, fr_A, fr_O, fr_P, fr_L, sp_X10_stands, zc, zf, nf, e80]
      clear hn hf ha hS hR
      have hk3 : 0 ≤ (k : Int) ∧ (k : Int) < nC c := by omega
      by_cases a : stM (gA g 82 F) k
      · by_cases b : (rA c 26 k).toInt = r.toInt
        · have e1 := e1 b a
          grind
        · have e0 := e0 (fun h => b h.1)
          grind
      · have e0 := e0 (fun h => a h.2)
        grind
  have h0 := loop _ 0 rfl (Nat.zero_le _) (rA g 82) (by rw [gA_self]; exact h)
  rw [gA_self] at h0
  clear hs loop
  apply hR 40
  simp (maxSteps := 10000000) (disch := omega) only [hS, hn, sm_eqs, hf, ha, sm_b0, Int.reduceToNat, ↓reduceIte, Nat.reduceEqDiff, true_and, and_true, List.length_nil, List.length_cons, Nat.reduceAdd, Nat.reduceLeDiff, Nat.zero_le, false_implies, true_implies, not_true_eq_false, not_false_eq_true, implies_true, Nat.reduceSub, Nat.reduceMul, Nat.reduceDiv, reduceCtorEq, tn_clamp, nI_t, tn_nI, nI_add, pk_mul, rS_gS, rS_gA, rS_gL, rA_gS, rA_gA, rA_gL, rL_gS, rL_gA, rL_gL, and_self, and_false, false_and, if_true, if_false, true_or, or_true, or_false, false_or, sm_in, eqI, sI_s, Int32.toInt_zero, Int.natCast_zero, Int.natCast_one, Int.cast_ofNat_Int, Int.reduceEq, Int.reduceLT, Int.reduceLE, Int.reduceNeg, Int.reduceNe, ne_eq, n_up, g_up, e_cat, fr_A, fr_O, fr_P, fr_L, sp_X10_stands]
  exact h0
theorem ok_X10_withdrawAll (l : Launch) (c : sm_G) : sm_spok l lay sm_mt 3 213 (sp_X10_withdrawAll c) := Or.inr (Or.inr (Or.inr ⟨by decide, by decide, by
  rw [mt_213]
  exact sm_method (T := TX10_) v_cok v_lok v_ka v_tok_X10 mok_X10_withdrawAll rfl (by unfold sm_rk; simp) (wf_X10_withdrawAll c) (List.forall_mem_cons.mpr ⟨sm_spok_up (Nat.le_of_ble_eq_true rfl : 2 ≤ 2) (ok_X10_stands l), fun _ h => absurd h List.not_mem_nil⟩) (b_X10_withdrawAll c)⟩))
theorem ok_X10_withdrawAll_E (l : Launch) : sm_spok l lay sm_mt 3 213 (spE sp_X10_withdrawAll) := spok_E (by decide) (by decide) (fun c => sm_spok_up (by decide) (ok_X10_withdrawAll l c))
theorem CP_shut {c g : sm_G} (h : CP c g) {r : Nat} (hr : r < nR c) : CP (gA c 14 (upd (rA c 14) r (nI 0))) (gA g 70 (upd (rA g 70) r (nI 1))) := by
  obtain ⟨i, cq, ⟨q1, q2, q3, q4, q5, q6, q7, q8⟩, ct, cc⟩ := h
  have hn := (iv_z i).2.1.2
  refine ⟨iv_14 i r, cq, ⟨q1, q2, q3, q4, q5, q6, fun j hj => ?_, fun j hj hj2 => ?_⟩, ct, cc⟩
  · show ((upd (rA g 70) r (nI 1) j).toInt = 0) = ((upd (rA c 14) r (nI 0) j).toInt = 1)
    by_cases e : j = r
    · rw [e, pk_us, pk_us]; exact propext ⟨fun h => absurd h (by decide), fun h => absurd h (by decide)⟩
    · rw [pk_un e, pk_un e]; exact q7 j hj
  · show upd (rA g 70) r (nI 1) j = nI 0
    have hj : nR c ≤ j := hj
    rw [pk_un (by omega)]; exact q8 j hj hj2
def sp_X10_close (c : sm_G) : sm_SP := fun as g K => match as with
  | [.ref p, .int r] => p = 53 ∧ CP c g ∧ (¬ opn c r → ∀ h, mS g h → CP c h → K (some (.int (nI 0))) h) ∧ (opn c r → ∀ h, mS g h → CP (fins (gA c 14 (upd (rA c 14) (tn r) (nI 0))) (fun k => (rA c 26 k).toInt == r.toInt) (nI 2) (nC c)) h → K (some (.int (nI 1))) h)
  | _ => False
theorem wf_X10_close (c : sm_G) : sm_wf lay (yX10_close, cX10_close, 2, (some .boolean)) 2 false (sp_X10_close c) := by
  intro as g K h
  simp only [sp_X10_close] at h
  split at h
  · exact ⟨Nat.le_of_ble_eq_true rfl, by simp, rfl, fun _ => by obtain rfl := h.1; exact ⟨53, _, 10, [1, 1, 56, 57, 58, 59, 60, 61, 1, 1, 62, 63, 64, 65, 66, 67, 68, 69, 70, 71, 72, 73, 1, 74, 75, 76, 77, 1, 1, 78, 79, 1, 80, 1, 81, 1, 82, 83, 84, 85, 86, 1], TX10, 42, rfl, rfl, rfl⟩⟩
  · exact h.elim
set_option maxHeartbeats 4000000 in
set_option maxRecDepth 100000 in
theorem b_X10_close (c : sm_G) : sm_body lay NX10_close 2 1 (sm_cl [(194, sp_X10_isOpen c), (213, spE sp_X10_withdrawAll)]) (sp_X10_close c) := by
  intro K J S hW as g hs
  have hn := n_X10_close
  have hf := fd_all
  have ha := ar_all
  generalize NX10_close = N at hn hW
  generalize lay = L at hf ha hW
  obtain ⟨hS, hR⟩ := hW
  simp only [sp_X10_close] at hs
  split at hs
  case h_2 => exact hs.elim
  simp only [e_args, sm_pad, List.length_cons, List.length_nil, Nat.reduceAdd, Nat.reduceSub, List.replicate_succ, List.replicate_zero, List.cons_append, List.nil_append]
  rename_i p r
  obtain ⟨rfl, h, h1, h2⟩ := hs
  have hn2 := CP_n h
  by_cases ho : opn c r
  · have h2 := h2 ho
    obtain ⟨r, hr, rfl⟩ := ok_nI ho.1
    rw [tn_nI (by omega)] at h2
    have hsh := CP_shut h hr
    clear h1
    apply hR 60
    simp (maxSteps := 10000000) (disch := omega) only [hS, hn, sm_eqs, hf, ha, sm_b0, Int.reduceToNat, ↓reduceIte, Nat.reduceEqDiff, true_and, and_true, List.length_nil, List.length_cons, Nat.reduceAdd, Nat.reduceLeDiff, Nat.zero_le, false_implies, true_implies, not_true_eq_false, not_false_eq_true, implies_true, Nat.reduceSub, Nat.reduceMul, Nat.reduceDiv, reduceCtorEq, tn_clamp, nI_t, tn_nI, nI_add, pk_mul, rS_gS, rS_gA, rS_gL, rA_gS, rA_gA, rA_gL, rL_gS, rL_gA, rL_gL, and_self, and_false, false_and, if_true, if_false, true_or, or_true, or_false, false_or, sm_in, eqI, sI_s, Int32.toInt_zero, Int.natCast_zero, Int.natCast_one, Int.cast_ofNat_Int, Int.reduceEq, Int.reduceLT, Int.reduceLE, Int.reduceNeg, Int.reduceNe, ne_eq, n_up, g_up, e_cat, fr_A, fr_O, fr_P, fr_L, sp_X10_isOpen, sp_X10_withdrawAll, spE, h, cp_fr, ho]
    clear hn hf ha hS hR
    exact ⟨by omega, _, hsh, fun F hF => h2 _ (mS_S (mS_A (mS_A (mS_rf g) (by omega)) (by omega))) (by rw [nI_t (by omega)]; exact hF)⟩
  · have h1 := h1 ho (gS g 53 1000 (nI 0)) (mS_S (mS_rf g)) h
    clear h2
    apply hR 60
    simp (maxSteps := 10000000) (disch := omega) only [hS, hn, sm_eqs, hf, ha, sm_b0, Int.reduceToNat, ↓reduceIte, Nat.reduceEqDiff, true_and, and_true, List.length_nil, List.length_cons, Nat.reduceAdd, Nat.reduceLeDiff, Nat.zero_le, false_implies, true_implies, not_true_eq_false, not_false_eq_true, implies_true, Nat.reduceSub, Nat.reduceMul, Nat.reduceDiv, reduceCtorEq, tn_clamp, nI_t, tn_nI, nI_add, pk_mul, rS_gS, rS_gA, rS_gL, rA_gS, rA_gA, rA_gL, rL_gS, rL_gA, rL_gL, and_self, and_false, false_and, if_true, if_false, true_or, or_true, or_false, false_or, sm_in, eqI, sI_s, Int32.toInt_zero, Int.natCast_zero, Int.natCast_one, Int.cast_ofNat_Int, Int.reduceEq, Int.reduceLT, Int.reduceLE, Int.reduceNeg, Int.reduceNe, ne_eq, n_up, g_up, e_cat, fr_A, fr_O, fr_P, fr_L, sp_X10_isOpen, sp_X10_withdrawAll, spE, h, cp_fr, ho]
    exact h1
theorem ok_X10_close (l : Launch) (c : sm_G) : sm_spok l lay sm_mt 4 216 (sp_X10_close c) := Or.inr (Or.inr (Or.inr ⟨by decide, by decide, by
  rw [mt_216]
  exact sm_method (T := TX10_) v_cok v_lok v_ka v_tok_X10 mok_X10_close rfl (by unfold sm_rk; simp) (wf_X10_close c) (List.forall_mem_cons.mpr ⟨sm_spok_up (Nat.le_of_ble_eq_true rfl : 3 ≤ 3) (ok_X10_isOpen l c), List.forall_mem_cons.mpr ⟨sm_spok_up (Nat.le_of_ble_eq_true rfl : 3 ≤ 3) (ok_X10_withdrawAll_E l), fun _ h => absurd h List.not_mem_nil⟩⟩) (b_X10_close c)⟩))
