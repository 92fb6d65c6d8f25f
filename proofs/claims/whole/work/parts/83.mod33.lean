/-! The reference: what is told of a claim, of a thing. -/
def clmA (c : sm_G) (k : Nat) (w : Int32) : Int32 := if w.toInt = 0 then rA c 28 k else if w.toInt = 1 then rA c 26 k else rA c 27 k
def sp_X10_claimed (c : sm_G) : sm_SP := fun as g K => match as with
  | [.ref p, .int k, .int w] => p = 53 ∧ CP c g ∧ (∀ h, mS g h → CP c h → (rS h 53 1000 = nI 0 → okC c k → 0 ≤ w.toInt ∧ w.toInt ≤ 2 → K (some (.int (clmA c (tn k) w))) h) ∧ (rS h 53 1000 = nI 1 → ¬ (okC c k ∧ 0 ≤ w.toInt ∧ w.toInt ≤ 2) → K (some (.int (nI 0))) h))
  | _ => False
theorem wf_X10_claimed (c : sm_G) : sm_wf lay (yX10_claimed, cX10_claimed, 3, (some .int)) 3 false (sp_X10_claimed c) := by
  intro as g K h
  simp only [sp_X10_claimed] at h
  split at h
  · exact ⟨Nat.le_of_ble_eq_true rfl, by simp, rfl, fun _ => by obtain rfl := h.1; exact ⟨53, _, 10, [1, 1, 56, 57, 58, 59, 60, 61, 1, 1, 62, 63, 64, 65, 66, 67, 68, 69, 70, 71, 72, 73, 1, 74, 75, 76, 77, 1, 1, 78, 79, 1, 80, 1, 81, 1, 82, 83, 84, 85, 86, 1], TX10, 42, rfl, rfl, rfl⟩⟩
  · exact h.elim
set_option maxHeartbeats 4000000 in
set_option maxRecDepth 100000 in
theorem b_X10_claimed (c : sm_G) : sm_body lay NX10_claimed 3 0 (sm_cl [(161, sp_X10_in)]) (sp_X10_claimed c) := by
  intro K J S hW as g hs
  have hn := n_X10_claimed
  have hf := fd_all
  have ha := ar_all
  generalize NX10_claimed = N at hn hW
  generalize lay = L at hf ha hW
  obtain ⟨hS, hR⟩ := hW
  simp only [sp_X10_claimed] at hs
  split at hs
  case h_2 => exact hs.elim
  simp only [e_args, sm_pad, List.length_cons, List.length_nil, Nat.reduceAdd, Nat.reduceSub, List.replicate_succ, List.replicate_zero, List.cons_append, List.nil_append]
  rename_i p k w
  obtain ⟨rfl, h, hs⟩ := hs
  have hn2 := CP_n h
  have eC := h.2.2.2.2.1
  have h1 := (hs (gS g 53 1000 (nI 0)) (mS_S (mS_rf g)) h).1 rfl
  have h2 := (hs (gS g 53 1000 (nI 1)) (mS_S (mS_rf g)) h).2 rfl
  clear hs
  by_cases hk : okC c k
  · obtain ⟨k, hk2, rfl⟩ := ok_nI hk
    have h1 := h1 hk
    rw [tn_nI (by omega)] at h1
    have e80 := h.2.2.2.2.2.1 k hk2
    have e81 := h.2.2.2.2.2.2.1 k hk2
    have e82 := h.2.2.2.2.2.2.2.1 k hk2
    have h2 := fun (a : ¬ (0 ≤ w.toInt ∧ w.toInt ≤ 2)) => h2 (fun b => a b.2)
    unfold clmA at h1
    apply hR 90
    simp (maxSteps := 10000000) (disch := omega) only [hS, hn, sm_eqs, hf, ha, sm_b0, Int.reduceToNat, ↓reduceIte, Nat.reduceEqDiff, true_and, and_true, List.length_nil, List.length_cons, Nat.reduceAdd, Nat.reduceLeDiff, Nat.zero_le, false_implies, true_implies, not_true_eq_false, not_false_eq_true, implies_true, Nat.reduceSub, Nat.reduceMul, Nat.reduceDiv, reduceCtorEq, tn_clamp, nI_t, tn_nI, nI_add, pk_mul, rS_gS, rS_gA, rS_gL, rA_gS, rA_gA, rA_gL, rL_gS, rL_gA, rL_gL, and_self, and_false, false_and, if_true, if_false, true_or, or_true, or_false, false_or, sm_in, eqI, sI_s, Int32.toInt_zero, Int.natCast_zero, Int.natCast_one, Int.cast_ofNat_Int, Int.reduceEq, Int.reduceLT, Int.reduceLE, Int.reduceNeg, Int.reduceNe, ne_eq, n_up, g_up, e_cat, fr_A, fr_O, fr_P, fr_L, sp_X10_in, eC, nI_m1, e80, e81, e82]
    clear hn hf ha hS hR
    refine ⟨fun _ => ⟨fun b => ?_, fun b => h2 b⟩, fun a => absurd (by omega) a⟩
    have h1 := h1 b
    refine ⟨fun d => ⟨by omega, ?_⟩, fun d => ⟨fun d2 => ⟨by omega, ?_⟩, fun d2 => ⟨by omega, ?_⟩⟩⟩
    · rw [if_pos d] at h1; exact h1
    · rw [if_neg d, if_pos d2] at h1; exact h1
    · rw [if_neg d, if_neg d2] at h1; exact h1
  · have h2 := h2 (fun a => hk a.1)
    unfold okC at hk
    clear h1
    apply hR 90
    simp (maxSteps := 10000000) (disch := omega) only [hS, hn, sm_eqs, hf, ha, sm_b0, Int.reduceToNat, ↓reduceIte, Nat.reduceEqDiff, true_and, and_true, List.length_nil, List.length_cons, Nat.reduceAdd, Nat.reduceLeDiff, Nat.zero_le, false_implies, true_implies, not_true_eq_false, not_false_eq_true, implies_true, Nat.reduceSub, Nat.reduceMul, Nat.reduceDiv, reduceCtorEq, tn_clamp, nI_t, tn_nI, nI_add, pk_mul, rS_gS, rS_gA, rS_gL, rA_gS, rA_gA, rA_gL, rL_gS, rL_gA, rL_gL, and_self, and_false, false_and, if_true, if_false, true_or, or_true, or_false, false_or, sm_in, eqI, sI_s, Int32.toInt_zero, Int.natCast_zero, Int.natCast_one, Int.cast_ofNat_Int, Int.reduceEq, Int.reduceLT, Int.reduceLE, Int.reduceNeg, Int.reduceNe, ne_eq, n_up, g_up, e_cat, fr_A, fr_O, fr_P, fr_L, sp_X10_in, eC, nI_m1]
    clear hn hf ha hS hR
    exact ⟨fun a => absurd (by omega) hk, fun _ => h2⟩
theorem ok_X10_claimed (l : Launch) (c : sm_G) : sm_spok l lay sm_mt 2 217 (sp_X10_claimed c) := Or.inr (Or.inr (Or.inr ⟨by decide, by decide, by
  rw [mt_217]
  exact sm_method (T := TX10_) v_cok v_lok v_ka v_tok_X10 mok_X10_claimed rfl (by unfold sm_rk; simp) (wf_X10_claimed c) (List.forall_mem_cons.mpr ⟨sm_spok_up (Nat.le_of_ble_eq_true rfl : 1 ≤ 1) (ok_X10_in l), fun _ h => absurd h List.not_mem_nil⟩) (b_X10_claimed c)⟩))
noncomputable def plcA (c : sm_G) (t : Nat) (w : Int32) : Int32 := if w.toInt = 0 then nI (whC c t) else if w.toInt = 1 then rA c 19 t else if w.toInt = 2 then rA c 20 t else if w.toInt = 3 then rA c 16 t else if w.toInt = 4 then rA c 17 t else if w.toInt = 5 then rA c 21 t else if w.toInt = 6 then rA c 22 t else if w.toInt = 7 then rA c 23 t else if w.toInt = 8 then nI (cnt (fun u => (rA c 19 u).toInt == (t : Int)) (nT c)) else rA c 30 t
def sp_X10_place (c : sm_G) : sm_SP := fun as g K => match as with
  | [.ref p, .int t, .int w] => p = 53 ∧ CP c g ∧ (∀ h, mS g h → CP c h → (rS h 53 1000 = nI 0 → okT c t → 0 ≤ w.toInt ∧ w.toInt ≤ 9 → K (some (.int (plcA c (tn t) w))) h) ∧ (rS h 53 1000 = nI 1 → ¬ (okT c t ∧ 0 ≤ w.toInt ∧ w.toInt ≤ 9) → K (some (.int (nI 0))) h))
  | _ => False
theorem wf_X10_place (c : sm_G) : sm_wf lay (yX10_place, cX10_place, 3, (some .int)) 3 false (sp_X10_place c) := by
  intro as g K h
  simp only [sp_X10_place] at h
  split at h
  · exact ⟨Nat.le_of_ble_eq_true rfl, by simp, rfl, fun _ => by obtain rfl := h.1; exact ⟨53, _, 10, [1, 1, 56, 57, 58, 59, 60, 61, 1, 1, 62, 63, 64, 65, 66, 67, 68, 69, 70, 71, 72, 73, 1, 74, 75, 76, 77, 1, 1, 78, 79, 1, 80, 1, 81, 1, 82, 83, 84, 85, 86, 1], TX10, 42, rfl, rfl, rfl⟩⟩
  · exact h.elim
set_option maxHeartbeats 4000000 in
set_option maxRecDepth 100000 in
theorem b_X10_place (c : sm_G) : sm_body lay NX10_place 3 0 (sm_cl [(168, sp_X10_isThing c), (161, sp_X10_in), (170, sp_X10_isOut c), (219, sp_X10_inside c), (209, sp_X10_standing)]) (sp_X10_place c) := by
  intro K J S hW as g hs
  have hn := n_X10_place
  have hf := fd_all
  have ha := ar_all
  generalize NX10_place = N at hn hW
  generalize lay = L at hf ha hW
  obtain ⟨hS, hR⟩ := hW
  simp only [sp_X10_place] at hs
  split at hs
  case h_2 => exact hs.elim
  simp only [e_args, sm_pad, List.length_cons, List.length_nil, Nat.reduceAdd, Nat.reduceSub, List.replicate_succ, List.replicate_zero, List.cons_append, List.nil_append]
  rename_i p t w
  obtain ⟨rfl, h, hs⟩ := hs
  have hn2 := CP_n h
  have h1 := (hs (gS g 53 1000 (nI 0)) (mS_S (mS_rf g)) h).1 rfl
  have h2 := (hs (gS g 53 1000 (nI 1)) (mS_S (mS_rf g)) h).2 rfl
  clear hs
  by_cases hk : okT c t
  · by_cases hw : 0 ≤ w.toInt ∧ w.toInt ≤ 9
    · have h1 := h1 hk hw
      clear h2
      obtain ⟨t, ht, rfl⟩ := ok_nI hk
      rw [tn_nI (by omega)] at h1
      obtain ⟨zM1, zM2⟩ := CP_zM h
      have zf : ∀ v, zM (gS g 53 1000 v) := fun v => zM1
      have hsd := CP_stand h (t := t) (by omega)
      have hsd : nI (cnt (fun k => dc (stM (gS g 53 1000 (nI 0)) k ∧ (rA g 81 k).toInt = (t : Int))) (mC (gS g 53 1000 (nI 0)))) = rA c 30 t := hsd
      have e63 := h.2.2.2.1.2.2.2.2.2.1 t ht
      have e64 := h.2.2.2.1.2.2.2.2.2.2.1 t ht
      have e65 := h.2.2.2.1.2.2.2.2.2.2.2.1 t ht
      have e60 := h.2.2.2.1.2.2.1 t ht
      have e61 := h.2.2.2.1.2.2.2.1 t ht
      have e66 := h.2.2.2.1.2.2.2.2.2.2.2.2.1 t ht
      have e21 := h.1.2.2.1.2.2.2.2.2.2.2.1 t ht
      unfold plcA at h1
      apply hR 90
      simp (maxSteps := 10000000) (disch := omega) only [hS, hn, sm_eqs, hf, ha, sm_b0, Int.reduceToNat, ↓reduceIte, Nat.reduceEqDiff, true_and, and_true, List.length_nil, List.length_cons, Nat.reduceAdd, Nat.reduceLeDiff, Nat.zero_le, false_implies, true_implies, not_true_eq_false, not_false_eq_true, implies_true, Nat.reduceSub, Nat.reduceMul, Nat.reduceDiv, reduceCtorEq, tn_clamp, nI_t, tn_nI, nI_add, pk_mul, rS_gS, rS_gA, rS_gL, rA_gS, rA_gA, rA_gL, rL_gS, rL_gA, rL_gL, and_self, and_false, false_and, if_true, if_false, true_or, or_true, or_false, false_or, sm_in, eqI, sI_s, Int32.toInt_zero, Int.natCast_zero, Int.natCast_one, Int.cast_ofNat_Int, Int.reduceEq, Int.reduceLT, Int.reduceLE, Int.reduceNeg, Int.reduceNe, ne_eq, n_up, g_up, e_cat, fr_A, fr_O, fr_P, fr_L, sp_X10_isThing, sp_X10_in, sp_X10_isOut, sp_X10_inside, sp_X10_standing, h, cp_fr, hk, hw, zf, hsd, e63, e64, e65, e60, e61]
      clear hn hf ha hS hR
      refine ⟨fun a => ?_, fun a => ?_, fun a => ?_, fun a => ?_, fun a => ?_, fun a => ?_, fun a => ?_, fun a => ?_, fun a => ?_, fun a => ?_⟩
      · have a : w.toInt = 9 := by omega
        simp only [a, Int.reduceEq, ↓reduceIte] at h1; exact h1
      · have a : w.toInt = 0 := by omega
        simp only [a, Int.reduceEq, ↓reduceIte] at h1
        exact ⟨by omega, h1⟩
      · have a : w.toInt = 1 := by omega
        simp only [a, Int.reduceEq, ↓reduceIte] at h1
        exact ⟨by omega, h1⟩
      · have a : w.toInt = 2 := by omega
        simp only [a, Int.reduceEq, ↓reduceIte] at h1
        exact ⟨by omega, h1⟩
      · have a : w.toInt = 3 := by omega
        simp only [a, Int.reduceEq, ↓reduceIte] at h1
        exact ⟨by omega, h1⟩
      · have a : w.toInt = 4 := by omega
        simp only [a, Int.reduceEq, ↓reduceIte] at h1
        exact ⟨by omega, h1⟩
      · have a : w.toInt = 5 := by omega
        simp only [a, Int.reduceEq, ↓reduceIte] at h1
        refine ⟨fun b => ⟨by omega, by rw [(e66 b).1]; exact h1⟩, fun b => ?_⟩
        have e : rA c 21 t = sI 0 := Int32.toInt_inj.mp (by rw [(e21 b).1]; rfl)
        rw [e] at h1; exact h1
      · have a : w.toInt = 6 := by omega
        simp only [a, Int.reduceEq, ↓reduceIte] at h1
        refine ⟨fun b => ⟨by omega, by rw [(e66 b).2.1]; exact h1⟩, fun b => ?_⟩
        have e : rA c 22 t = sI 0 := Int32.toInt_inj.mp (by rw [(e21 b).2]; rfl)
        rw [e] at h1; exact h1
      · have a : w.toInt = 7 := by omega
        simp only [a, Int.reduceEq, ↓reduceIte] at h1
        refine ⟨fun b => ⟨by omega, by rw [(e66 b).2.2]; exact h1⟩, fun b => ?_⟩
        have e : rA c 23 t = sI 0 := Int32.toInt_inj.mp b
        rw [e] at h1; exact h1
      · have a : w.toInt = 8 := by omega
        simp only [a, Int.reduceEq, ↓reduceIte] at h1
        exact h1
    · have h2 := h2 (fun a => hw a.2)
      clear h1
      apply hR 90
      simp (maxSteps := 10000000) (disch := omega) only [hS, hn, sm_eqs, hf, ha, sm_b0, Int.reduceToNat, ↓reduceIte, Nat.reduceEqDiff, true_and, and_true, List.length_nil, List.length_cons, Nat.reduceAdd, Nat.reduceLeDiff, Nat.zero_le, false_implies, true_implies, not_true_eq_false, not_false_eq_true, implies_true, Nat.reduceSub, Nat.reduceMul, Nat.reduceDiv, reduceCtorEq, tn_clamp, nI_t, tn_nI, nI_add, pk_mul, rS_gS, rS_gA, rS_gL, rA_gS, rA_gA, rA_gL, rL_gS, rL_gA, rL_gL, and_self, and_false, false_and, if_true, if_false, true_or, or_true, or_false, false_or, sm_in, eqI, sI_s, Int32.toInt_zero, Int.natCast_zero, Int.natCast_one, Int.cast_ofNat_Int, Int.reduceEq, Int.reduceLT, Int.reduceLE, Int.reduceNeg, Int.reduceNe, ne_eq, n_up, g_up, e_cat, fr_A, fr_O, fr_P, fr_L, sp_X10_isThing, sp_X10_in, sp_X10_isOut, sp_X10_inside, sp_X10_standing, h, cp_fr, hk, hw]
      clear hn hf ha hS hR
      repeat' (first | (refine And.intro ?_ ?_) | (intro _))
      all_goals (first | with_reducible assumption | omega | (exfalso; omega))
  · have h2 := h2 (fun a => hk a.1)
    clear h1
    apply hR 90
    simp (maxSteps := 10000000) (disch := omega) only [hS, hn, sm_eqs, hf, ha, sm_b0, Int.reduceToNat, ↓reduceIte, Nat.reduceEqDiff, true_and, and_true, List.length_nil, List.length_cons, Nat.reduceAdd, Nat.reduceLeDiff, Nat.zero_le, false_implies, true_implies, not_true_eq_false, not_false_eq_true, implies_true, Nat.reduceSub, Nat.reduceMul, Nat.reduceDiv, reduceCtorEq, tn_clamp, nI_t, tn_nI, nI_add, pk_mul, rS_gS, rS_gA, rS_gL, rA_gS, rA_gA, rA_gL, rL_gS, rL_gA, rL_gL, and_self, and_false, false_and, if_true, if_false, true_or, or_true, or_false, false_or, sm_in, eqI, sI_s, Int32.toInt_zero, Int.natCast_zero, Int.natCast_one, Int.cast_ofNat_Int, Int.reduceEq, Int.reduceLT, Int.reduceLE, Int.reduceNeg, Int.reduceNe, ne_eq, n_up, g_up, e_cat, fr_A, fr_O, fr_P, fr_L, sp_X10_isThing, sp_X10_in, sp_X10_isOut, sp_X10_inside, sp_X10_standing, h, cp_fr, hk]
    clear hn hf ha hS hR
    repeat' (first | (refine And.intro ?_ ?_) | (intro _))
    all_goals (first | with_reducible assumption | omega | (exfalso; omega))
theorem ok_X10_place (l : Launch) (c : sm_G) : sm_spok l lay sm_mt 4 220 (sp_X10_place c) := Or.inr (Or.inr (Or.inr ⟨by decide, by decide, by
  rw [mt_220]
  exact sm_method (T := TX10_) v_cok v_lok v_ka v_tok_X10 mok_X10_place rfl (by unfold sm_rk; simp) (wf_X10_place c) (List.forall_mem_cons.mpr ⟨sm_spok_up (Nat.le_of_ble_eq_true rfl : 2 ≤ 3) (ok_X10_isThing l c), List.forall_mem_cons.mpr ⟨sm_spok_up (Nat.le_of_ble_eq_true rfl : 1 ≤ 3) (ok_X10_in l), List.forall_mem_cons.mpr ⟨sm_spok_up (Nat.le_of_ble_eq_true rfl : 1 ≤ 3) (ok_X10_isOut l c), List.forall_mem_cons.mpr ⟨sm_spok_up (Nat.le_of_ble_eq_true rfl : 1 ≤ 3) (ok_X10_inside l c), List.forall_mem_cons.mpr ⟨sm_spok_up (Nat.le_of_ble_eq_true rfl : 3 ≤ 3) (ok_X10_standing l), fun _ h => absurd h List.not_mem_nil⟩⟩⟩⟩⟩) (b_X10_place c)⟩))
