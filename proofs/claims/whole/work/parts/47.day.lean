/-! Days; claims given. -/
/-- a thing ripens by a day -/
def ripG (g : sm_G) (t : Nat) : sm_G :=
  if (rA g 50 (tn (rA g 16 t))).toInt ≤ (rA g 20 t + nI 1).toInt then
    (if rA g 18 t = nI 1 ∧ (rA g 17 t).toInt ≠ 0 then goT 60 (gA g 20 (upd (rA g 20) t (rA g 20 t + nI 1))) t (rA g 17 t) (nI 2)
     else goT 60 (gA g 20 (upd (rA g 20) t (rA g 20 t + nI 1))) t (nI 0) (if (rA g 16 t).toInt = 4 then nI 3 else nI 4))
  else gA g 20 (upd (rA g 20) t (rA g 20 t + nI 1))
theorem wG_20 (g : sm_G) (f : Nat → Int32) : wG (gA g 20 f) = wG g := rfl
theorem wy_20 (g : sm_G) (f : Nat → Int32) (x : Nat) : whyC (gA g 20 f) x = whyC g x := rfl
theorem iv_20 (g : sm_G) (f : Nat → Int32) : iv (gA g 20 f) = iv g := rfl
theorem iv_51 (g : sm_G) (f : Nat → Int32) : iv (gA g 51 f) = iv g ∧ iv (gA g 52 f) = iv g := ⟨rfl, rfl⟩
theorem iv_9 (g : sm_G) (v : Int32) : iv (gS g 0 912 v) = iv g := rfl
theorem rip_ok {g : sm_G} (h : iv g) {t : Nat} (ht : t < nT g) (hw : whyC g t = -1) : iv (ripG g t) ∧ nO g ≤ nO (ripG g t) ∧ nT (ripG g t) = nT g := by
  have hG := iv_wG h
  have key : ∀ w y, 1 ≤ y.toInt ∧ y.toInt ≤ 4 → iv (goT 60 (gA g 20 (upd (rA g 20) t (rA g 20 t + nI 1))) t w y) ∧ nO g ≤ nO (goT 60 (gA g 20 (upd (rA g 20) t (rA g 20 t + nI 1))) t w y) ∧ nT (goT 60 (gA g 20 (upd (rA g 20) t (rA g 20 t + nI 1))) t w y) = nT g := fun w y hy => by
    obtain ⟨q1, q2, q3⟩ := gT_ok 60 (gA g 20 (upd (rA g 20) t (rA g 20 t + nI 1))) t w y (by omega) hG ht hw (by have := h.2.2.1.1.2; show nT g - nO g ≤ 60; omega)
    exact ⟨gP_iv (g := gA g 20 (upd (rA g 20) t (rA g 20 t + nI 1))) h hy q1 q2, q1.2.2.2.2.1, (gP_n q1).1⟩
  unfold ripG
  split
  · split
    · exact key _ _ (by decide)
    · split
      · exact key _ _ (by decide)
      · exact key _ _ (by decide)
  · exact ⟨h, Nat.le_refl _, rfl⟩
def sp_X9_ripen : sm_SP := fun as g K => match as with
  | [.ref p, .int t] => p = 0 ∧ iv g ∧ ∃ T, t = nI T ∧ T < nT g ∧ whyC g T = -1 ∧ (∀ fb fa, K none (gA (gA (ripG g T) 51 fb) 52 fa))
  | _ => False
theorem wf_X9_ripen : sm_wf lay (yX9_ripen, cX9_ripen, 4, none) 2 false sp_X9_ripen := by
  intro as g K h
  simp only [sp_X9_ripen] at h
  split at h
  · exact ⟨Nat.le_of_ble_eq_true rfl, by simp, rfl, fun _ => by obtain rfl := h.1; exact ⟨0, _, 9, [3, 8, 11, 14, 17, 27, 33, 35, 48, 52, 53, 54, 1], TX9, 13, rfl, rfl, rfl⟩⟩
  · exact h.elim
set_option maxHeartbeats 4000000 in
set_option maxRecDepth 100000 in
theorem b_X9_ripen : sm_body lay NX9_ripen 4 4 (sm_cl [(95, sp_X8_kindOf), (103, sp_X8_growOlder), (97, sp_X8_isWantedByFinder), (96, sp_X8_finderOf), (154, sp_X9_sendWithContents)]) sp_X9_ripen := by
  intro K J S hW as g hs
  have hn := n_X9_ripen
  have hf := fd_all
  have ha := ar_all
  generalize NX9_ripen = N at hn hW
  generalize lay = L at hf ha hW
  obtain ⟨hS, hR⟩ := hW
  simp only [sp_X9_ripen] at hs
  split at hs
  case h_2 => exact hs.elim
  simp only [e_args, sm_pad, List.length_cons, List.length_nil, Nat.reduceAdd, Nat.reduceSub, List.replicate_succ, List.replicate_zero, List.cons_append, List.nil_append]
  rename_i p t
  obtain ⟨rfl, iv, T, rfl, hT, hw, hs⟩ := hs
  have zt := (iv_z iv).2.2.1
  have hzt := zt.2
  have hk := iv.2.2.1.2.2.2.1 T hT
  have h18 := iv.2.2.1.2.2.1
  have ho : okT g (nI T) := by unfold okT; rw [nI_t (by omega)]; omega
  have hG := iv_wG iv
  have h18b : ∀ i, (rA g 18 i).toInt = 0 ∨ (rA g 18 i).toInt = 1 := fun i => by rcases h18 i with e | e <;> rw [e] <;> decide
  have e18 : (rA g 18 T = nI 1) = ((rA g 18 T).toInt = 1) := by rw [eqI]; rfl
  have hs0 := hs (rA (ripG g T) 51) (rA (ripG g T) 52)
  rw [gA_self, gA_self] at hs0
  clear iv
  apply hR 80
  simp (maxSteps := 10000000) (disch := omega) only [hS, hn, sm_eqs, hf, ha, sm_b0, Int.reduceToNat, ↓reduceIte, Nat.reduceEqDiff, true_and, and_true, List.length_nil, List.length_cons, Nat.reduceAdd, Nat.reduceLeDiff, Nat.zero_le, false_implies, true_implies, not_true_eq_false, not_false_eq_true, implies_true, Nat.reduceSub, Nat.reduceMul, reduceCtorEq, tn_clamp, nI_t, tn_nI, nI_add, pk_mul, rS_gS, rS_gA, rS_gL, rA_gS, rA_gA, rA_gL, rL_gS, rL_gA, rL_gL, and_self, and_false, false_and, if_true, if_false, true_or, or_true, or_false, false_or, sm_in, eqI, sI_s, Int32.toInt_zero, Int.natCast_zero, Int.natCast_one, Int.cast_ofNat_Int, Int.reduceEq, Int.reduceLT, Int.reduceLE, Int.reduceNeg, Int.reduceNe, ne_eq, n_up, g_up, e_cat, fr_A, fr_O, fr_P, fr_L, sp_X8_kindOf, sp_X8_growOlder, sp_X8_isWantedByFinder, sp_X8_finderOf, sp_X9_sendWithContents, zt, ho, hk]
  clear hn hf ha hS hR
  unfold ripG at hs hs0
  rw [e18] at hs hs0
  generalize gA g 20 (upd (rA g 20) T (rA g 20 T + nI 1)) = H at *
  sorry
theorem ok_X9_ripen (l : Launch) : sm_spok l lay sm_mt 5 153 sp_X9_ripen := Or.inr (Or.inr (Or.inr ⟨by decide, by decide, by
  rw [mt_153]
  exact sm_method (T := TX9_) v_cok v_lok v_ka v_tok_X9 mok_X9_ripen rfl (by unfold sm_rk; simp) wf_X9_ripen (List.forall_mem_cons.mpr ⟨sm_spok_up (Nat.le_of_ble_eq_true rfl : 2 ≤ 4) (ok_X8_kindOf l), List.forall_mem_cons.mpr ⟨sm_spok_up (Nat.le_of_ble_eq_true rfl : 2 ≤ 4) (ok_X8_growOlder l), List.forall_mem_cons.mpr ⟨sm_spok_up (Nat.le_of_ble_eq_true rfl : 2 ≤ 4) (ok_X8_isWantedByFinder l), List.forall_mem_cons.mpr ⟨sm_spok_up (Nat.le_of_ble_eq_true rfl : 2 ≤ 4) (ok_X8_finderOf l), List.forall_mem_cons.mpr ⟨sm_spok_up (Nat.le_of_ble_eq_true rfl : 4 ≤ 4) (ok_X9_sendWithContents l), fun _ h => absurd h List.not_mem_nil⟩⟩⟩⟩⟩) b_X9_ripen⟩))
