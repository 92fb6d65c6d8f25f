/-! The group is gathered. -/
theorem gL_self (g : sm_G) (p : Nat) : gL g p (rL g p) = g := by
  refine Prod.ext rfl (Prod.ext rfl (funext fun a => ?_))
  simp only [gL, rL]; split
  · rename_i h; rw [h]
  · rfl
noncomputable def gF (g : sm_G) (i : Nat) : Int64 := if (rA g 14 i).toInt = 1 then sOf (fun t => dc ((rA g 23 t).toInt = -1 ∧ fitC g i t)) (nT g) else lN 0
def sp_X3_gather : sm_SP := fun as g K => match as with
  | [.ref p, .int r] => p = 33 ∧ wQ g ∧ zT g ∧ zR g ∧ wL g 6 ∧ wL g 9 ∧ (∀ i, rA g 14 i = nI 0 ∨ rA g 14 i = nI 1) ∧ okR g r ∧ rA g 14 (tn r) = nI 1 ∧
      (∀ (F : Nat → Int64) (ins : Int64) (M G' : Nat → Int32), (∀ i, i < nR g → F i = gF g i) → (∀ i, i < 64 → (bitL ins i = true ↔ con F (nR g) (tn r) i)) → hol M (lst (bitL ins) 60) → hol G' (lst (bitL (shA F (bitL ins) 60)) 60) →
        K none (gS (gS (gL (gA (gA g 44 M) 45 G') 43 F) 33 306 (nI (cnt (bitL ins) 60))) 33 307 (nI (cnt (bitL (shA F (bitL ins) 60)) 60))))
  | _ => False
theorem wf_X3_gather : sm_wf lay (yX3_gather, cX3_gather, 3, none) 2 false sp_X3_gather := by
  intro as g K h
  simp only [sp_X3_gather] at h
  split at h
  · exact ⟨Nat.le_of_ble_eq_true rfl, by simp, rfl, fun _ => by obtain rfl := h.1; exact ⟨33, _, 3, [33, 14, 36, 45, 46, 47, 1, 1], TX3, 8, rfl, rfl, rfl⟩⟩
  · exact h.elim
set_option maxHeartbeats 4000000 in
set_option maxRecDepth 100000 in
theorem b_X3_gather : sm_body lay NX3_gather 3 4 (sm_cl [(77, sp_X6_isOpen), (75, sp_X6_size), (58, sp_X4_fitSet), (50, sp_X3_hangTogether), (51, sp_X3_listMembers)]) sp_X3_gather := by
  intro K J S hW as g hs
  have hn := n_X3_gather
  have hf := fd_all
  have ha := ar_all
  generalize NX3_gather = N at hn hW
  generalize lay = L at hf ha hW
  obtain ⟨hS, hR⟩ := hW
  simp only [sp_X3_gather] at hs
  split at hs
  case h_2 => exact hs.elim
  simp only [e_args, sm_pad, List.length_cons, List.length_nil, Nat.reduceAdd, Nat.reduceSub, List.replicate_succ, List.replicate_zero, List.cons_append, List.nil_append]
  rename_i p r
  obtain ⟨rfl, w, z, zr, l6, l9, hop, hr, hro, hs⟩ := hs
  have z3 := z.2
  have zr2 := zr.2
  obtain ⟨r, hr2, rfl⟩ := ok_nI hr
  simp (disch := omega) only [tn_nI] at hs hro
  have loop : ∀ m o, m = nR g - o → o ≤ nR g → ∀ F : Nat → Int64, (∀ i, i < o → F i = gF g i) → J 33 [some (.ref 33), some (.int (nI r)), some (.int (nI o))] [] (gS (gS (gL g 43 F) 33 306 (nI 0)) 33 307 (nI 0)) := by
    intro m
    induction m with
    | zero =>
      intro o hm ho F hF
      obtain rfl : o = nR g := by omega
      apply hR 60
      simp (maxSteps := 10000000) (disch := omega) only [hS, hn, sm_eqs, hf, ha, sm_b0, Int.reduceToNat, ↓reduceIte, Nat.reduceEqDiff, true_and, and_true, List.length_nil, List.length_cons, Nat.reduceAdd, Nat.reduceLeDiff, Nat.zero_le, false_implies, true_implies, not_true_eq_false, not_false_eq_true, implies_true, Nat.reduceSub, Nat.reduceMul, Nat.reduceDiv, reduceCtorEq, tn_clamp, nI_t, tn_nI, nI_add, pk_mul, rS_gS, rS_gA, rS_gL, rA_gS, rA_gA, rA_gL, rL_gS, rL_gA, rL_gL, and_self, and_false, false_and, if_true, if_false, true_or, or_true, or_false, false_or, sm_in, eqI, sI_s, Int32.toInt_zero, Int.natCast_zero, Int.natCast_one, Int.cast_ofNat_Int, Int.reduceEq, Int.reduceLT, Int.reduceLE, Int.reduceNeg, Int.reduceNe, ne_eq, n_up, g_up, e_cat, fr_A, fr_O, fr_P, fr_L, sp_X6_isOpen, sp_X6_size, sp_X4_fitSet, sp_X3_hangTogether, sp_X3_listMembers, w, z, zr, hr, fr_S0 oth_all.1]
      clear hn hf ha hS hR
      exact ⟨fun h => absurd h (by omega), fun _ ins hi M G' hM hG => hs F ins M G' hF hi hM hG⟩
    | succ m ih =>
      intro o hm ho F hF
      have ih := fun v (hv : v = gF g o) => ih (o + 1) (by omega) (by omega) (vp_updL F o v) (fun i hi => by
        by_cases e : i = o
        · subst e; rw [pk_uLs, hv]
        · rw [pk_uLn e]; exact hF i (by omega))
      have hk : okR g (nI o) := by unfold okR; rw [nI_t (by omega)]; omega
      unfold gF at ih
      rcases hop o with h | h
      · rw [h] at ih
        have ih := ih (lN 0) (by rw [if_neg (by decide)])
        apply hR 60
        simp (maxSteps := 10000000) (disch := omega) only [hS, hn, sm_eqs, hf, ha, sm_b0, Int.reduceToNat, ↓reduceIte, Nat.reduceEqDiff, true_and, and_true, List.length_nil, List.length_cons, Nat.reduceAdd, Nat.reduceLeDiff, Nat.zero_le, false_implies, true_implies, not_true_eq_false, not_false_eq_true, implies_true, Nat.reduceSub, Nat.reduceMul, Nat.reduceDiv, reduceCtorEq, tn_clamp, nI_t, tn_nI, nI_add, pk_mul, rS_gS, rS_gA, rS_gL, rA_gS, rA_gA, rA_gL, rL_gS, rL_gA, rL_gL, and_self, and_false, false_and, if_true, if_false, true_or, or_true, or_false, false_or, sm_in, eqI, sI_s, Int32.toInt_zero, Int.natCast_zero, Int.natCast_one, Int.cast_ofNat_Int, Int.reduceEq, Int.reduceLT, Int.reduceLE, Int.reduceNeg, Int.reduceNe, ne_eq, n_up, g_up, e_cat, fr_A, fr_O, fr_P, fr_L, sp_X6_isOpen, sp_X6_size, sp_X4_fitSet, sp_X3_hangTogether, sp_X3_listMembers, w, z, zr, hk, h, l6, l9, fr_S0 oth_all.1]
        clear hn hf ha hS hR
        exact ⟨fun _ => ⟨fun _ => ⟨fun i => by rcases hop i with e | e <;> rw [e] <;> decide, by omega, ih⟩, fun h2 => absurd h2 (by omega)⟩, fun h2 => absurd h2 (by omega)⟩
      · rw [h] at ih
        have ih := ih _ (by rw [if_pos (by decide)])
        apply hR 60
        simp (maxSteps := 10000000) (disch := omega) only [hS, hn, sm_eqs, hf, ha, sm_b0, Int.reduceToNat, ↓reduceIte, Nat.reduceEqDiff, true_and, and_true, List.length_nil, List.length_cons, Nat.reduceAdd, Nat.reduceLeDiff, Nat.zero_le, false_implies, true_implies, not_true_eq_false, not_false_eq_true, implies_true, Nat.reduceSub, Nat.reduceMul, Nat.reduceDiv, reduceCtorEq, tn_clamp, nI_t, tn_nI, nI_add, pk_mul, rS_gS, rS_gA, rS_gL, rA_gS, rA_gA, rA_gL, rL_gS, rL_gA, rL_gL, and_self, and_false, false_and, if_true, if_false, true_or, or_true, or_false, false_or, sm_in, eqI, sI_s, Int32.toInt_zero, Int.natCast_zero, Int.natCast_one, Int.cast_ofNat_Int, Int.reduceEq, Int.reduceLT, Int.reduceLE, Int.reduceNeg, Int.reduceNe, ne_eq, n_up, g_up, e_cat, fr_A, fr_O, fr_P, fr_L, sp_X6_isOpen, sp_X6_size, sp_X4_fitSet, sp_X3_hangTogether, sp_X3_listMembers, w, z, zr, hk, h, l6, l9, fr_S0 oth_all.1]
        clear hn hf ha hS hR
        exact ⟨fun _ => ⟨fun _ => ⟨fun i => by rcases hop i with e | e <;> rw [e] <;> decide, by omega, by omega, ih⟩, fun h2 => absurd h2 (by omega)⟩, fun h2 => absurd h2 (by omega)⟩
  have h0 := loop _ 0 rfl (Nat.zero_le _) (rL g 43) (fun i h => by omega)
  apply hR 60
  simp (maxSteps := 10000000) (disch := omega) only [hS, hn, sm_eqs, hf, ha, sm_b0, Int.reduceToNat, ↓reduceIte, Nat.reduceEqDiff, true_and, and_true, List.length_nil, List.length_cons, Nat.reduceAdd, Nat.reduceLeDiff, Nat.zero_le, false_implies, true_implies, not_true_eq_false, not_false_eq_true, implies_true, Nat.reduceSub, Nat.reduceMul, Nat.reduceDiv, reduceCtorEq, tn_clamp, nI_t, tn_nI, nI_add, pk_mul, rS_gS, rS_gA, rS_gL, rA_gS, rA_gA, rA_gL, rL_gS, rL_gA, rL_gL, and_self, and_false, false_and, if_true, if_false, true_or, or_true, or_false, false_or, sm_in, eqI, sI_s, Int32.toInt_zero, Int.natCast_zero, Int.natCast_one, Int.cast_ofNat_Int, Int.reduceEq, Int.reduceLT, Int.reduceLE, Int.reduceNeg, Int.reduceNe, ne_eq, n_up, g_up, e_cat, fr_A, fr_O, fr_P, fr_L, sp_X6_isOpen, sp_X6_size, sp_X4_fitSet, sp_X3_hangTogether, sp_X3_listMembers, w, z, zr, hr, hro, fr_S0 oth_all.1]
  clear hn hf ha hS hR loop
  rw [gL_self] at h0
  exact ⟨fun i => by rcases hop i with e | e <;> rw [e] <;> decide, fun _ => h0, fun h => absurd h (by omega)⟩
theorem ok_X3_gather (l : Launch) : sm_spok l lay sm_mt 5 49 sp_X3_gather := Or.inr (Or.inr (Or.inr ⟨by decide, by decide, by
  rw [mt_49]
  exact sm_method (T := TX3_) v_cok v_lok v_ka v_tok_X3 mok_X3_gather rfl (by unfold sm_rk; simp) wf_X3_gather (List.forall_mem_cons.mpr ⟨sm_spok_up (Nat.le_of_ble_eq_true rfl : 2 ≤ 4) (ok_X6_isOpen l), List.forall_mem_cons.mpr ⟨sm_spok_up (Nat.le_of_ble_eq_true rfl : 1 ≤ 4) (ok_X6_size l), List.forall_mem_cons.mpr ⟨sm_spok_up (Nat.le_of_ble_eq_true rfl : 4 ≤ 4) (ok_X4_fitSet l), List.forall_mem_cons.mpr ⟨sm_spok_up (Nat.le_of_ble_eq_true rfl : 2 ≤ 4) (ok_X3_hangTogether l), List.forall_mem_cons.mpr ⟨sm_spok_up (Nat.le_of_ble_eq_true rfl : 2 ≤ 4) (ok_X3_listMembers l), fun _ h => absurd h List.not_mem_nil⟩⟩⟩⟩⟩) b_X3_gather⟩))
