def sp_X10_match (c : sm_G) : sm_SP := fun as g K => match as with
  | [.ref p] => p = 53 ∧ CP c g ∧ ∃ (R C : Nat) (mem gd : Nat → Nat), R ≤ 10 ∧ C ≤ 20 ∧ rS g 53 1027 = nI R ∧ rS g 53 1028 = nI C ∧ (∀ i, i < R → rA g 74 i = nI (mem i) ∧ mem i < 60 ∧ (rA c 14 (mem i)).toInt = 1) ∧ (∀ j, j < C → rA g 75 j = nI (gd j) ∧ gd j < nT c) ∧
      (∀ S ch W, bstW c R C mem gd W → (∀ i, i < R → ch i = oI ((W i).map gd)) → K none (gS (gL (gA g 77 ch) 76 S) 53 1031 (nI (wss c mem gd W R))))
  | _ => False
theorem wf_X10_match (c : sm_G) : sm_wf lay (yX10_match, cX10_match, 9, none) 1 false (sp_X10_match c) := by
  intro as g K h
  simp only [sp_X10_match] at h
  split at h
  · exact ⟨Nat.le_of_ble_eq_true rfl, by simp, rfl, fun _ => by obtain rfl := h.1; exact ⟨53, _, 10, [1, 1, 56, 57, 58, 59, 60, 61, 1, 1, 62, 63, 64, 65, 66, 67, 68, 69, 70, 71, 72, 73, 1, 74, 75, 76, 77, 1, 1, 78, 79, 1, 80, 1, 81, 1, 82, 83, 84, 85, 86, 1], TX10, 42, rfl, rfl, rfl⟩⟩
  · exact h.elim
set_option maxHeartbeats 4000000 in
set_option maxRecDepth 100000 in
theorem b_X10_match (c : sm_G) : sm_body lay NX10_match 9 4 (sm_cl [(191, sp_X10_worth c)]) (sp_X10_match c) := by
  intro K J S hW as g hs
  have hn := n_X10_match
  have hf := fd_all
  have ha := ar_all
  generalize NX10_match = N at hn hW
  generalize lay = L at hf ha hW
  obtain ⟨hS, hR⟩ := hW
  simp only [sp_X10_match] at hs
  split at hs
  case h_2 => exact hs.elim
  simp only [e_args, sm_pad, List.length_cons, List.length_nil, Nat.reduceAdd, Nat.reduceSub, List.replicate_succ, List.replicate_zero, List.cons_append, List.nil_append]
  sorry
theorem ok_X10_match (l : Launch) (c : sm_G) : sm_spok l lay sm_mt 6 192 (sp_X10_match c) := Or.inr (Or.inr (Or.inr ⟨by decide, by decide, by
  rw [mt_192]
  exact sm_method (T := TX10_) v_cok v_lok v_ka v_tok_X10 mok_X10_match rfl (by unfold sm_rk; simp) (wf_X10_match c) (List.forall_mem_cons.mpr ⟨sm_spok_up (Nat.le_of_ble_eq_true rfl : 5 ≤ 5) (ok_X10_worth l c), fun _ h => absurd h List.not_mem_nil⟩) (b_X10_match c)⟩))
