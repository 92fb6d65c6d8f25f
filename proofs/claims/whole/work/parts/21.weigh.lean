/-! What things are worth. -/
def sp_X4_weigh : sm_SP := fun as g K => match as with
  | [.ref p, .int t] => p = 31 ∧ zQ g ∧ zT g ∧ sm_in t 60 ∧ (∀ f : Nat → Int32, (∀ q, q < 16 → f q = woC g (tn t) q) → K none (gA g 32 f))
  | _ => False
theorem wf_X4_weigh : sm_wf lay (yX4_weigh, cX4_weigh, 5, none) 2 false sp_X4_weigh := by
  intro as g K h
  simp only [sp_X4_weigh] at h
  split at h
  · exact ⟨Nat.le_of_ble_eq_true rfl, by simp, rfl, fun _ => by obtain rfl := h.1; exact ⟨31, _, 4, [3, 8, 11, 17, 34], TX4, 5, rfl, rfl, rfl⟩⟩
  · exact h.elim
set_option maxHeartbeats 4000000 in
set_option maxRecDepth 100000 in
theorem b_X4_weigh : sm_body lay NX4_weigh 5 4 (sm_cl [(86, sp_X7_answerOf), (60, sp_X4_countHolders), (67, sp_X5_weightOf)]) sp_X4_weigh := by
  intro K J S hW as g hs
  have hn := n_X4_weigh
  have hf := fd_all
  have ha := ar_all
  generalize NX4_weigh = N at hn hW
  generalize lay = L at hf ha hW
  obtain ⟨hS, hR⟩ := hW
  simp only [sp_X4_weigh] at hs
  split at hs
  case h_2 => exact hs.elim
  simp only [e_args, sm_pad, List.length_cons, List.length_nil, Nat.reduceAdd, Nat.reduceSub, List.replicate_succ, List.replicate_zero, List.cons_append, List.nil_append]
  rename_i p t
  obtain ⟨rfl, zq, z, ht, hs⟩ := hs
  have z3 := z.2
  have z2 := zq.2
  obtain ⟨t, ht2, rfl⟩ := sm_in_nI ht
  simp (disch := omega) only [tn_nI] at hs
  have loop : ∀ m q, m = 16 - q → q ≤ 16 → ∀ f : Nat → Int32, (∀ u, u < q → f u = woC g t u) → ∀ v3 v4, J 2 [some (.ref 31), some (.int (nI t)), some (.int (nI q)), v3, v4] [] (gA g 32 f) := by
    intro m
    induction m with
    | zero =>
      intro q hm hq f hf2 v3 v4
      obtain rfl : q = 16 := by omega
      have hs := hs f hf2
      apply hR 60
      simp (maxSteps := 10000000) (disch := omega) only [hS, hn, sm_eqs, hf, ha, sm_b0, Int.reduceToNat, ↓reduceIte, Nat.reduceEqDiff, true_and, and_true, List.length_nil, List.length_cons, Nat.reduceAdd, Nat.reduceLeDiff, Nat.zero_le, false_implies, true_implies, not_true_eq_false, not_false_eq_true, implies_true, Nat.reduceSub, Nat.reduceMul, Nat.reduceDiv, reduceCtorEq, tn_clamp, nI_t, tn_nI, nI_add, pk_mul, rS_gS, rS_gA, rS_gL, rA_gS, rA_gA, rA_gL, rL_gS, rL_gA, rL_gL, and_self, and_false, false_and, if_true, if_false, true_or, or_true, or_false, false_or, sm_in, eqI, sI_s, Int32.toInt_zero, Int.natCast_zero, Int.natCast_one, Int.cast_ofNat_Int, Int.reduceEq, Int.reduceLT, Int.reduceLE, Int.reduceNeg, Int.reduceNe, ne_eq, n_up, g_up, e_cat, fr_A, fr_O, fr_P, fr_L, sp_X7_answerOf, sp_X4_countHolders, sp_X5_weightOf]
      exact hs
    | succ m ih =>
      intro q hm hq f hf2 v3 v4
      have ih := ih (q + 1) (by omega) (by omega) (upd f q (woC g t q)) (fun u hu => by
        by_cases e : u = q
        · subst e; exact pk_us
        · rw [pk_un e]; exact hf2 u (by omega))
      have hb := hoC_le g t q (anC g 9 t q) (nT g)
      have e0 : (anC g 9 t q).toInt = -1 → woC g t q = nI 0 := fun h => by unfold woC; rw [if_pos h]
      have e1 : ¬ (anC g 9 t q).toInt = -1 → q < nQ g → woC g t q = rA g 4 q * nI 12 / nI (hoC g t q (anC g 9 t q) (nT g)) := fun h h2 => by unfold woC; rw [if_neg h, if_pos h2]
      have e2 : ¬ (anC g 9 t q).toInt = -1 → ¬ q < nQ g → woC g t q = nI 0 / nI (hoC g t q (anC g 9 t q) (nT g)) := fun h h2 => by unfold woC; rw [if_neg h, if_neg h2, pk_mul]
      have eo : okQ g (nI q) = (q < nQ g) := by unfold okQ; rw [nI_t (by omega)]; exact propext ⟨fun h => by omega, fun h => by omega⟩
      clear hs hf2
      apply hR 60
      simp (maxSteps := 10000000) (disch := omega) only [hS, hn, sm_eqs, hf, ha, sm_b0, Int.reduceToNat, ↓reduceIte, Nat.reduceEqDiff, true_and, and_true, List.length_nil, List.length_cons, Nat.reduceAdd, Nat.reduceLeDiff, Nat.zero_le, false_implies, true_implies, not_true_eq_false, not_false_eq_true, implies_true, Nat.reduceSub, Nat.reduceMul, Nat.reduceDiv, reduceCtorEq, tn_clamp, nI_t, tn_nI, nI_add, pk_mul, rS_gS, rS_gA, rS_gL, rA_gS, rA_gA, rA_gL, rL_gS, rL_gA, rL_gL, and_self, and_false, false_and, if_true, if_false, true_or, or_true, or_false, false_or, sm_in, eqI, sI_s, Int32.toInt_zero, Int.natCast_zero, Int.natCast_one, Int.cast_ofNat_Int, Int.reduceEq, Int.reduceLT, Int.reduceLE, Int.reduceNeg, Int.reduceNe, ne_eq, n_up, g_up, e_cat, fr_A, fr_O, fr_P, fr_L, sp_X7_answerOf, sp_X4_countHolders, sp_X5_weightOf, aC_nI, zq, z, eo]
      clear hn hf ha hS hR
      generalize woC g t q = wo at ih e0 e1 e2
      refine ⟨fun _ => ⟨fun h => ⟨by omega, ?_⟩, fun h => ⟨by omega, by omega, fun hp => ⟨fun h2 => ⟨by omega, by omega, ?_⟩, fun h2 => ⟨by omega, by omega, ?_⟩⟩, fun hp => absurd hp (by omega)⟩⟩, fun h => absurd h (by omega)⟩
      · rw [← e0 h]; exact ih _ _
      · rw [← e1 h h2]; exact ih _ _
      · rw [← e2 h h2]; exact ih _ _
  have h0 := loop _ 0 rfl (Nat.zero_le _) (rA g 32) (fun u h => by omega) none none
  rw [gA_self] at h0
  apply hR 40
  simp (maxSteps := 10000000) (disch := omega) only [hS, hn, sm_eqs, hf, ha, sm_b0, Int.reduceToNat, ↓reduceIte, Nat.reduceEqDiff, true_and, and_true, List.length_nil, List.length_cons, Nat.reduceAdd, Nat.reduceLeDiff, Nat.zero_le, false_implies, true_implies, not_true_eq_false, not_false_eq_true, implies_true, Nat.reduceSub, Nat.reduceMul, Nat.reduceDiv, reduceCtorEq, tn_clamp, nI_t, tn_nI, nI_add, pk_mul, rS_gS, rS_gA, rS_gL, rA_gS, rA_gA, rA_gL, rL_gS, rL_gA, rL_gL, and_self, and_false, false_and, if_true, if_false, true_or, or_true, or_false, false_or, sm_in, eqI, sI_s, Int32.toInt_zero, Int.natCast_zero, Int.natCast_one, Int.cast_ofNat_Int, Int.reduceEq, Int.reduceLT, Int.reduceLE, Int.reduceNeg, Int.reduceNe, ne_eq, n_up, g_up, e_cat, fr_A, fr_O, fr_P, fr_L, sp_X7_answerOf, sp_X4_countHolders, sp_X5_weightOf]
  exact h0
theorem ok_X4_weigh (l : Launch) : sm_spok l lay sm_mt 4 59 sp_X4_weigh := Or.inr (Or.inr (Or.inr ⟨by decide, by decide, by
  rw [mt_59]
  exact sm_method (T := TX4_) v_cok v_lok v_ka v_tok_X4 mok_X4_weigh rfl (by unfold sm_rk; simp) wf_X4_weigh (List.forall_mem_cons.mpr ⟨sm_spok_up (Nat.le_of_ble_eq_true rfl : 2 ≤ 3) (ok_X7_answerOf l), List.forall_mem_cons.mpr ⟨sm_spok_up (Nat.le_of_ble_eq_true rfl : 3 ≤ 3) (ok_X4_countHolders l), List.forall_mem_cons.mpr ⟨sm_spok_up (Nat.le_of_ble_eq_true rfl : 2 ≤ 3) (ok_X5_weightOf l), fun _ h => absurd h List.not_mem_nil⟩⟩⟩) b_X4_weigh⟩))
/-- the strength of a report and a thing -/
def stC (g : sm_G) (r t : Nat) : Int32 := isum (fun q => if (anC g 6 r q).toInt = -1 then nI 0 else woC g t q) 16
theorem isum_congr {f h : Nat → Int32} : ∀ {n : Nat}, (∀ q, q < n → f q = h q) → isum f n = isum h n := by
  intro n
  induction n with
  | zero => intro _; rfl
  | succ n ih => intro e; simp only [isum]; rw [ih (fun q hq => e q (by omega)), e n (by omega)]
def sp_X4_strengthOf : sm_SP := fun as g K => match as with
  | [.ref p, .int r, .int t] => p = 31 ∧ wQ g ∧ zT g ∧ wL g 6 ∧ wL g 9 ∧ sm_in r 60 ∧ sm_in t 60 ∧ (¬ fitC g (tn r) (tn t) → K (some (.int (sI 0))) g) ∧ (fitC g (tn r) (tn t) → ∀ f : Nat → Int32, (∀ q, q < 16 → f q = woC g (tn t) q) → K (some (.int (stC g (tn r) (tn t)))) (gA g 32 f))
  | _ => False
theorem wf_X4_strengthOf : sm_wf lay (yX4_strengthOf, cX4_strengthOf, 3, (some .int)) 3 false sp_X4_strengthOf := by
  intro as g K h
  simp only [sp_X4_strengthOf] at h
  split at h
  · exact ⟨Nat.le_of_ble_eq_true rfl, by simp, rfl, fun _ => by obtain rfl := h.1; exact ⟨31, _, 4, [3, 8, 11, 17, 34], TX4, 5, rfl, rfl, rfl⟩⟩
  · exact h.elim
set_option maxHeartbeats 4000000 in
set_option maxRecDepth 100000 in
theorem b_X4_strengthOf : sm_body lay NX4_strengthOf 3 0 (sm_cl [(57, sp_X4_isFit), (59, sp_X4_weigh), (61, sp_X4_addWorths)]) sp_X4_strengthOf := by
  intro K J S hW as g hs
  have hn := n_X4_strengthOf
  have hf := fd_all
  have ha := ar_all
  generalize NX4_strengthOf = N at hn hW
  generalize lay = L at hf ha hW
  obtain ⟨hS, hR⟩ := hW
  simp only [sp_X4_strengthOf] at hs
  split at hs
  case h_2 => exact hs.elim
  simp only [e_args, sm_pad, List.length_cons, List.length_nil, Nat.reduceAdd, Nat.reduceSub, List.replicate_succ, List.replicate_zero, List.cons_append, List.nil_append]
  rename_i p r t
  obtain ⟨rfl, w, z, l6, l9, hr, ht, h1, h2⟩ := hs
  obtain ⟨r, hr2, rfl⟩ := sm_in_nI hr
  obtain ⟨t, ht2, rfl⟩ := sm_in_nI ht
  have w1 := w.1
  simp (disch := omega) only [tn_nI] at h1 h2
  apply hR 60
  simp (maxSteps := 10000000) (disch := omega) only [hS, hn, sm_eqs, hf, ha, sm_b0, Int.reduceToNat, ↓reduceIte, Nat.reduceEqDiff, true_and, and_true, List.length_nil, List.length_cons, Nat.reduceAdd, Nat.reduceLeDiff, Nat.zero_le, false_implies, true_implies, not_true_eq_false, not_false_eq_true, implies_true, Nat.reduceSub, Nat.reduceMul, Nat.reduceDiv, reduceCtorEq, tn_clamp, nI_t, tn_nI, nI_add, pk_mul, rS_gS, rS_gA, rS_gL, rA_gS, rA_gA, rA_gL, rL_gS, rL_gA, rL_gL, and_self, and_false, false_and, if_true, if_false, true_or, or_true, or_false, false_or, sm_in, eqI, sI_s, Int32.toInt_zero, Int.natCast_zero, Int.natCast_one, Int.cast_ofNat_Int, Int.reduceEq, Int.reduceLT, Int.reduceLE, Int.reduceNeg, Int.reduceNe, ne_eq, n_up, g_up, e_cat, fr_A, fr_O, fr_P, fr_L, sp_X4_isFit, sp_X4_weigh, sp_X4_addWorths, w, w1, z, l6, l9]
  clear hn hf ha hS hR
  refine ⟨by omega, by omega, fun hft => ⟨by omega, fun f hf2 => ⟨by omega, ?_⟩⟩, h1⟩
  have hf2 : ∀ q, q < 16 → f q = woC g t q := fun q hq => Int32.toInt_inj.mp (hf2 q hq)
  have h2 := h2 hft f hf2
  rw [show stC g r t = isum (fun q => if (anC g 6 r q).toInt = -1 then nI 0 else f q) 16 from isum_congr (fun q hq => by rw [hf2 q hq])] at h2
  exact h2
theorem ok_X4_strengthOf (l : Launch) : sm_spok l lay sm_mt 5 62 sp_X4_strengthOf := Or.inr (Or.inr (Or.inr ⟨by decide, by decide, by
  rw [mt_62]
  exact sm_method (T := TX4_) v_cok v_lok v_ka v_tok_X4 mok_X4_strengthOf rfl (by unfold sm_rk; simp) wf_X4_strengthOf (List.forall_mem_cons.mpr ⟨sm_spok_up (Nat.le_of_ble_eq_true rfl : 4 ≤ 4) (ok_X4_isFit l), List.forall_mem_cons.mpr ⟨sm_spok_up (Nat.le_of_ble_eq_true rfl : 4 ≤ 4) (ok_X4_weigh l), List.forall_mem_cons.mpr ⟨sm_spok_up (Nat.le_of_ble_eq_true rfl : 3 ≤ 4) (ok_X4_addWorths l), fun _ h => absurd h List.not_mem_nil⟩⟩⟩) b_X4_strengthOf⟩))
theorem fr_w (g : sm_G) (f : Nat → Int32) : (∀ t q, woC (gA g 32 f) t q = woC g t q) ∧ (∀ r t, stC (gA g 32 f) r t = stC g r t) := by
  have h : ∀ t q, woC (gA g 32 f) t q = woC g t q := fun t q => by
    unfold woC
    rw [fr_A.2.2.2.2.2.2.2.2.2.2.1 g 32 f 9 t q (by decide) (by decide)]
    rw [show nQ (gA g 32 f) = nQ g from rfl, show nT (gA g 32 f) = nT g from rfl, show rA (gA g 32 f) 4 = rA g 4 from rfl]
    rw [fr_A.2.2.2.2.2.2.2.2.2.2.2.2.2.2.2.2.2 g 32 f t q _ _ (by decide) (by decide) (by decide)]
  refine ⟨h, fun r t => ?_⟩
  unfold stC
  refine isum_congr (fun q _ => ?_)
  rw [h, fr_A.2.2.2.2.2.2.2.2.2.2.1 g 32 f 6 r q (by decide) (by decide)]
def sp_X4_countAsStrong : sm_SP := fun as g K => match as with
  | [.ref p, .int r, .int l] => p = 31 ∧ wQ g ∧ zT g ∧ wL g 6 ∧ wL g 9 ∧ sm_in r 60 ∧ (∀ f : Nat → Int32, K (some (.int (nI (cnt (fun t => dc (t < nT g ∧ (rA g 23 t).toInt = -1 ∧ fitC g (tn r) t ∧ l.toInt ≤ (stC g (tn r) t).toInt)) 60)))) (gA g 32 f))
  | _ => False
theorem wf_X4_countAsStrong : sm_wf lay (yX4_countAsStrong, cX4_countAsStrong, 7, (some .int)) 3 false sp_X4_countAsStrong := by
  intro as g K h
  simp only [sp_X4_countAsStrong] at h
  split at h
  · exact ⟨Nat.le_of_ble_eq_true rfl, by simp, rfl, fun _ => by obtain rfl := h.1; exact ⟨31, _, 4, [3, 8, 11, 17, 34], TX4, 5, rfl, rfl, rfl⟩⟩
  · exact h.elim
set_option maxHeartbeats 4000000 in
set_option maxRecDepth 100000 in
theorem b_X4_countAsStrong : sm_body lay NX4_countAsStrong 7 0 (sm_cl [(58, sp_X4_fitSet), (132, sp_X9_isIn), (62, sp_X4_strengthOf)]) sp_X4_countAsStrong := by
  intro K J S hW as g hs
  have hn := n_X4_countAsStrong
  have hf := fd_all
  have ha := ar_all
  generalize NX4_countAsStrong = N at hn hW
  generalize lay = L at hf ha hW
  obtain ⟨hS, hR⟩ := hW
  simp only [sp_X4_countAsStrong] at hs
  split at hs
  case h_2 => exact hs.elim
  simp only [e_args, sm_pad, List.length_cons, List.length_nil, Nat.reduceAdd, Nat.reduceSub, List.replicate_succ, List.replicate_zero, List.cons_append, List.nil_append]
  rename_i p r l
  obtain ⟨rfl, w, z, l6, l9, hr, hs⟩ := hs
  obtain ⟨r, hr2, rfl⟩ := sm_in_nI hr
  have z3 := z.2
  have w1 := w.1
  simp (disch := omega) only [tn_nI] at hs
  have loop : ∀ m t, m = 60 - t → t ≤ 60 → ∀ c, c = cnt (fun t => dc (t < nT g ∧ (rA g 23 t).toInt = -1 ∧ fitC g r t ∧ l.toInt ≤ (stC g r t).toInt)) t → ∀ f : Nat → Int32, J 12 [some (.ref 31), some (.int (nI r)), some (.int l), some (.long (sOf (fun t => dc ((rA g 23 t).toInt = -1 ∧ fitC g r t)) (nT g))), none, some (.int (nI c)), some (.int (nI t))] [] (gA g 32 f) := by
    intro m
    induction m with
    | zero =>
      intro t hm ht c hc f
      obtain rfl : t = 60 := by omega
      rw [← hc] at hs
      have hs := hs f
      apply hR 60
      simp (maxSteps := 10000000) (disch := omega) only [hS, hn, sm_eqs, hf, ha, sm_b0, Int.reduceToNat, ↓reduceIte, Nat.reduceEqDiff, true_and, and_true, List.length_nil, List.length_cons, Nat.reduceAdd, Nat.reduceLeDiff, Nat.zero_le, false_implies, true_implies, not_true_eq_false, not_false_eq_true, implies_true, Nat.reduceSub, Nat.reduceMul, Nat.reduceDiv, reduceCtorEq, tn_clamp, nI_t, tn_nI, nI_add, pk_mul, rS_gS, rS_gA, rS_gL, rA_gS, rA_gA, rA_gL, rL_gS, rL_gA, rL_gL, and_self, and_false, false_and, if_true, if_false, true_or, or_true, or_false, false_or, sm_in, eqI, sI_s, Int32.toInt_zero, Int.natCast_zero, Int.natCast_one, Int.cast_ofNat_Int, Int.reduceEq, Int.reduceLT, Int.reduceLE, Int.reduceNeg, Int.reduceNe, ne_eq, n_up, g_up, e_cat, fr_A, fr_O, fr_P, fr_L, sp_X4_fitSet, sp_X9_isIn, sp_X4_strengthOf]
      exact hs
    | succ m ih =>
      intro t hm ht c hc f
      have hb := cnt_le (fun t => dc (t < nT g ∧ (rA g 23 t).toInt = -1 ∧ fitC g r t ∧ l.toInt ≤ (stC g r t).toInt)) t
      rw [← hc] at hb
      have e1 : (t < nT g ∧ (rA g 23 t).toInt = -1 ∧ fitC g r t ∧ l.toInt ≤ (stC g r t).toInt) → ∀ f : Nat → Int32, J 12 [some (.ref 31), some (.int (nI r)), some (.int l), some (.long (sOf (fun t => dc ((rA g 23 t).toInt = -1 ∧ fitC g r t)) (nT g))), none, some (.int (nI (c + 1))), some (.int (nI (t + 1)))] [] (gA g 32 f) := fun h => ih (t + 1) (by omega) (by omega) (c + 1) (by simp only [cnt, ← hc]; rw [if_pos (dc_t.mpr h)])
      have e0 : ¬ (t < nT g ∧ (rA g 23 t).toInt = -1 ∧ fitC g r t ∧ l.toInt ≤ (stC g r t).toInt) → ∀ f : Nat → Int32, J 12 [some (.ref 31), some (.int (nI r)), some (.int l), some (.long (sOf (fun t => dc ((rA g 23 t).toInt = -1 ∧ fitC g r t)) (nT g))), none, some (.int (nI c)), some (.int (nI (t + 1)))] [] (gA g 32 f) := fun h => ih (t + 1) (by omega) (by omega) c (by simp only [cnt, ← hc]; rw [if_neg (fun h2 => h (dc_t.mp h2))]; rfl)
      have hbit := bit_sOf (fun t => dc ((rA g 23 t).toInt = -1 ∧ fitC g r t)) t (nT g) (by omega)
      generalize sOf (fun t => dc ((rA g 23 t).toInt = -1 ∧ fitC g r t)) (nT g) = sf at e1 e0 hbit ⊢
      clear ih hs hc
      by_cases hin : t < nT g ∧ (rA g 23 t).toInt = -1 ∧ fitC g r t
      · have hb1 : bitL sf t = true := by rw [hbit, dc_t.mpr ⟨hin.2.1, hin.2.2⟩]; simp [hin.1]
        have hft := hin.2.2
        apply hR 60
        simp (maxSteps := 10000000) (disch := omega) only [hS, hn, sm_eqs, hf, ha, sm_b0, Int.reduceToNat, ↓reduceIte, Nat.reduceEqDiff, true_and, and_true, List.length_nil, List.length_cons, Nat.reduceAdd, Nat.reduceLeDiff, Nat.zero_le, false_implies, true_implies, not_true_eq_false, not_false_eq_true, implies_true, Nat.reduceSub, Nat.reduceMul, Nat.reduceDiv, reduceCtorEq, tn_clamp, nI_t, tn_nI, nI_add, pk_mul, rS_gS, rS_gA, rS_gL, rA_gS, rA_gA, rA_gL, rL_gS, rL_gA, rL_gL, and_self, and_false, false_and, if_true, if_false, true_or, or_true, or_false, false_or, sm_in, eqI, sI_s, Int32.toInt_zero, Int.natCast_zero, Int.natCast_one, Int.cast_ofNat_Int, Int.reduceEq, Int.reduceLT, Int.reduceLE, Int.reduceNeg, Int.reduceNe, ne_eq, n_up, g_up, e_cat, fr_A, fr_O, fr_P, fr_L, sp_X4_fitSet, sp_X9_isIn, sp_X4_strengthOf, w, w1, z, l6, l9, hb1, hft, fr_w g f]
        clear hn hf ha hS hR
        exact ⟨fun _ => ⟨by omega, by omega, by omega, fun f _ => ⟨fun h => e0 (fun h2 => absurd h2.2.2.2 (by omega)) f, fun h => e1 ⟨hin.1, hin.2.1, hft, by omega⟩ f⟩⟩, fun h => absurd h (by omega)⟩
      · have hb1 : bitL sf t = false := by
          rw [hbit]
          by_cases h : t < nT g
          · rw [dc_f.mpr (fun h2 => hin ⟨h, h2⟩)]; simp
          · simp [h]
        have e0 := e0 (fun h => hin ⟨h.1, h.2.1, h.2.2.1⟩) f
        apply hR 60
        simp (maxSteps := 10000000) (disch := omega) only [hS, hn, sm_eqs, hf, ha, sm_b0, Int.reduceToNat, ↓reduceIte, Nat.reduceEqDiff, true_and, and_true, List.length_nil, List.length_cons, Nat.reduceAdd, Nat.reduceLeDiff, Nat.zero_le, false_implies, true_implies, not_true_eq_false, not_false_eq_true, implies_true, Nat.reduceSub, Nat.reduceMul, Nat.reduceDiv, reduceCtorEq, tn_clamp, nI_t, tn_nI, nI_add, pk_mul, rS_gS, rS_gA, rS_gL, rA_gS, rA_gA, rA_gL, rL_gS, rL_gA, rL_gL, and_self, and_false, false_and, if_true, if_false, true_or, or_true, or_false, false_or, sm_in, eqI, sI_s, Int32.toInt_zero, Int.natCast_zero, Int.natCast_one, Int.cast_ofNat_Int, Int.reduceEq, Int.reduceLT, Int.reduceLE, Int.reduceNeg, Int.reduceNe, ne_eq, n_up, g_up, e_cat, fr_A, fr_O, fr_P, fr_L, sp_X4_fitSet, sp_X9_isIn, sp_X4_strengthOf, w, w1, z, l6, l9, hb1]
        clear hn hf ha hS hR
        exact ⟨fun _ => ⟨by omega, e0⟩, fun h => absurd h (by omega)⟩
  have h0 := loop _ 0 rfl (Nat.zero_le _) 0 rfl (rA g 32)
  rw [gA_self] at h0
  apply hR 60
  simp (maxSteps := 10000000) (disch := omega) only [hS, hn, sm_eqs, hf, ha, sm_b0, Int.reduceToNat, ↓reduceIte, Nat.reduceEqDiff, true_and, and_true, List.length_nil, List.length_cons, Nat.reduceAdd, Nat.reduceLeDiff, Nat.zero_le, false_implies, true_implies, not_true_eq_false, not_false_eq_true, implies_true, Nat.reduceSub, Nat.reduceMul, Nat.reduceDiv, reduceCtorEq, tn_clamp, nI_t, tn_nI, nI_add, pk_mul, rS_gS, rS_gA, rS_gL, rA_gS, rA_gA, rA_gL, rL_gS, rL_gA, rL_gL, and_self, and_false, false_and, if_true, if_false, true_or, or_true, or_false, false_or, sm_in, eqI, sI_s, Int32.toInt_zero, Int.natCast_zero, Int.natCast_one, Int.cast_ofNat_Int, Int.reduceEq, Int.reduceLT, Int.reduceLE, Int.reduceNeg, Int.reduceNe, ne_eq, n_up, g_up, e_cat, fr_A, fr_O, fr_P, fr_L, sp_X4_fitSet, sp_X9_isIn, sp_X4_strengthOf, w, w1, z, l6, l9]
  exact ⟨by omega, h0⟩
theorem ok_X4_countAsStrong (l : Launch) : sm_spok l lay sm_mt 6 63 sp_X4_countAsStrong := Or.inr (Or.inr (Or.inr ⟨by decide, by decide, by
  rw [mt_63]
  exact sm_method (T := TX4_) v_cok v_lok v_ka v_tok_X4 mok_X4_countAsStrong rfl (by unfold sm_rk; simp) wf_X4_countAsStrong (List.forall_mem_cons.mpr ⟨sm_spok_up (Nat.le_of_ble_eq_true rfl : 4 ≤ 5) (ok_X4_fitSet l), List.forall_mem_cons.mpr ⟨sm_spok_up (Nat.le_of_ble_eq_true rfl : 1 ≤ 5) (ok_X9_isIn l), List.forall_mem_cons.mpr ⟨sm_spok_up (Nat.le_of_ble_eq_true rfl : 5 ≤ 5) (ok_X4_strengthOf l), fun _ h => absurd h List.not_mem_nil⟩⟩⟩) b_X4_countAsStrong⟩))
