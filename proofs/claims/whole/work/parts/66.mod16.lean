/-! The reference: classes counted over the list of what is fitted. -/
/-- the thing at a place of the list, and how many there are -/
noncomputable def fd (g : sm_G) (i : Nat) : Nat := tn (rA g 78 i)
noncomputable def mN (g : sm_G) : Nat := tn (rS g 53 1033)
def fdOk (g : sm_G) : Prop := (∀ i, i < mN g → rA g 78 i = nI (fd g i) ∧ fd g i < 60) ∧ mN g ≤ 60 ∧ rS g 53 1033 = nI (mN g)
/-- no earlier one of the list has the same answer -/
def newF (c g : sm_G) (q i : Nat) : Prop := ∀ u, u < i → (anC c 9 (fd g i) q).toInt ≠ (anC c 9 (fd g u) q).toInt
noncomputable def clsF (c g : sm_G) (q : Nat) : Nat := cnt (fun i => dc (newF c g q i)) (mN g)
def sp_X10_classes (c : sm_G) : sm_SP := fun as g K => match as with
  | [.ref p, .int q] => p = 53 ∧ CP c g ∧ sm_in q 16 ∧ fdOk g ∧ K (some (.int (nI (clsF c g (tn q))))) g
  | _ => False
theorem wf_X10_classes (c : sm_G) : sm_wf lay (yX10_classes, cX10_classes, 6, (some .int)) 2 false (sp_X10_classes c) := by
  intro as g K h
  simp only [sp_X10_classes] at h
  split at h
  · exact ⟨Nat.le_of_ble_eq_true rfl, by simp, rfl, fun _ => by obtain rfl := h.1; exact ⟨53, _, 10, [1, 1, 56, 57, 58, 59, 60, 61, 1, 1, 62, 63, 64, 65, 66, 67, 68, 69, 70, 71, 72, 73, 1, 74, 75, 76, 77, 1, 1, 78, 79, 1, 80, 1, 81, 1, 82, 83, 84, 85, 86, 1], TX10, 42, rfl, rfl, rfl⟩⟩
  · exact h.elim
set_option maxHeartbeats 4000000 in
set_option maxRecDepth 100000 in
theorem b_X10_classes (c : sm_G) : sm_body lay NX10_classes 6 0 (sm_cl [(177, sp_X10_knows)]) (sp_X10_classes c) := by
  intro K J S hW as g hs
  have hn := n_X10_classes
  have hf := fd_all
  have ha := ar_all
  generalize NX10_classes = N at hn hW
  generalize lay = L at hf ha hW
  obtain ⟨hS, hR⟩ := hW
  simp only [sp_X10_classes] at hs
  split at hs
  case h_2 => exact hs.elim
  simp only [e_args, sm_pad, List.length_cons, List.length_nil, Nat.reduceAdd, Nat.reduceSub, List.replicate_succ, List.replicate_zero, List.cons_append, List.nil_append]
  rename_i p q
  obtain ⟨rfl, h, hq, ⟨hf1, hf2, hf3⟩, hs⟩ := hs
  obtain ⟨q, hq2, rfl⟩ := sm_in_nI hq
  rw [tn_nI (by omega)] at hs
  have hk := h.2.2.1.2.2.1
  have loop : ∀ m i, m = mN g - i → i ≤ mN g → ∀ n, n = cnt (fun i => dc (newF c g q i)) i → ∀ v4 v5, J 4 [some (.ref 53), some (.int (nI q)), some (.int (nI n)), some (.int (nI i)), v4, v5] [] g := by
    intro m
    induction m with
    | zero =>
      intro i hm hi n hn9 v4 v5
      obtain rfl : i = mN g := by omega
      unfold clsF at hs
      rw [← hn9] at hs
      apply hR 60
      simp (maxSteps := 10000000) (disch := omega) only [hS, hn, sm_eqs, hf, ha, sm_b0, Int.reduceToNat, ↓reduceIte, Nat.reduceEqDiff, true_and, and_true, List.length_nil, List.length_cons, Nat.reduceAdd, Nat.reduceLeDiff, Nat.zero_le, false_implies, true_implies, not_true_eq_false, not_false_eq_true, implies_true, Nat.reduceSub, Nat.reduceMul, Nat.reduceDiv, reduceCtorEq, tn_clamp, nI_t, tn_nI, nI_add, pk_mul, rS_gS, rS_gA, rS_gL, rA_gS, rA_gA, rA_gL, rL_gS, rL_gA, rL_gL, and_self, and_false, false_and, if_true, if_false, true_or, or_true, or_false, false_or, sm_in, eqI, sI_s, Int32.toInt_zero, Int.natCast_zero, Int.natCast_one, Int.cast_ofNat_Int, Int.reduceEq, Int.reduceLT, Int.reduceLE, Int.reduceNeg, Int.reduceNe, ne_eq, n_up, g_up, e_cat, fr_A, fr_O, fr_P, fr_L, sp_X10_knows, hf3]
      repeat' (first | (refine And.intro ?_ ?_) | (intro _))
      all_goals (first | with_reducible assumption | omega | (exfalso; omega))
    | succ m ih =>
      intro i hm hi n hn9 v4 v5
      have e1 : newF c g q i → ∀ v4 v5, J 4 [some (.ref 53), some (.int (nI q)), some (.int (nI (n + 1))), some (.int (nI (i + 1))), v4, v5] [] g := fun a => ih (i + 1) (by omega) (by omega) _ (by show _ = cnt (fun i => dc (newF c g q i)) i + (if dc (newF c g q i) = true then 1 else 0); rw [if_pos (dc_t.mpr a), hn9])
      have e0 : ¬ newF c g q i → ∀ v4 v5, J 4 [some (.ref 53), some (.int (nI q)), some (.int (nI (n + 0))), some (.int (nI (i + 1))), v4, v5] [] g := fun a => ih (i + 1) (by omega) (by omega) _ (by show _ = cnt (fun i => dc (newF c g q i)) i + (if dc (newF c g q i) = true then 1 else 0); rw [if_neg (fun b => a (dc_t.mp b)), hn9])
      obtain ⟨fi1, fi2⟩ := hf1 i (by omega)
      have ki := hk (fd g i) q fi2 hq2
      have hnl : n ≤ i := by rw [hn9]; exact cnt_le _ _
      clear ih hs hn9
      have l2 : ∀ m j, m = i - j → j ≤ i → ∀ b, (b = 1 ∧ ∀ u, u < j → (anC c 9 (fd g i) q).toInt ≠ (anC c 9 (fd g u) q).toInt) ∨ (b = 0 ∧ ¬ newF c g q i) → J 18 [some (.ref 53), some (.int (nI q)), some (.int (nI n)), some (.int (nI i)), some (.int (nI b)), some (.int (nI j))] [] g := by
        intro m
        induction m with
        | zero =>
          intro j hm2 hj b hb
          obtain rfl : j = i := by omega
          rcases hb with ⟨rfl, hb⟩ | ⟨rfl, hb⟩
          · have e1 := e1 hb
            clear e0
            apply hR 60
            simp (maxSteps := 10000000) (disch := omega) only [hS, hn, sm_eqs, hf, ha, sm_b0, Int.reduceToNat, ↓reduceIte, Nat.reduceEqDiff, true_and, and_true, List.length_nil, List.length_cons, Nat.reduceAdd, Nat.reduceLeDiff, Nat.zero_le, false_implies, true_implies, not_true_eq_false, not_false_eq_true, implies_true, Nat.reduceSub, Nat.reduceMul, Nat.reduceDiv, reduceCtorEq, tn_clamp, nI_t, tn_nI, nI_add, pk_mul, rS_gS, rS_gA, rS_gL, rA_gS, rA_gA, rA_gL, rL_gS, rL_gA, rL_gL, and_self, and_false, false_and, if_true, if_false, true_or, or_true, or_false, false_or, sm_in, eqI, sI_s, Int32.toInt_zero, Int.natCast_zero, Int.natCast_one, Int.cast_ofNat_Int, Int.reduceEq, Int.reduceLT, Int.reduceLE, Int.reduceNeg, Int.reduceNe, ne_eq, n_up, g_up, e_cat, fr_A, fr_O, fr_P, fr_L, sp_X10_knows]
            repeat' (first | (refine And.intro ?_ ?_) | (intro _))
            all_goals (first | with_reducible assumption | omega | (exfalso; omega) | exact e1 _ _)
          · have e0 := e0 hb
            clear e1
            apply hR 60
            simp (maxSteps := 10000000) (disch := omega) only [hS, hn, sm_eqs, hf, ha, sm_b0, Int.reduceToNat, ↓reduceIte, Nat.reduceEqDiff, true_and, and_true, List.length_nil, List.length_cons, Nat.reduceAdd, Nat.reduceLeDiff, Nat.zero_le, false_implies, true_implies, not_true_eq_false, not_false_eq_true, implies_true, Nat.reduceSub, Nat.reduceMul, Nat.reduceDiv, reduceCtorEq, tn_clamp, nI_t, tn_nI, nI_add, pk_mul, rS_gS, rS_gA, rS_gL, rA_gS, rA_gA, rA_gL, rL_gS, rL_gA, rL_gL, and_self, and_false, false_and, if_true, if_false, true_or, or_true, or_false, false_or, sm_in, eqI, sI_s, Int32.toInt_zero, Int.natCast_zero, Int.natCast_one, Int.cast_ofNat_Int, Int.reduceEq, Int.reduceLT, Int.reduceLE, Int.reduceNeg, Int.reduceNe, ne_eq, n_up, g_up, e_cat, fr_A, fr_O, fr_P, fr_L, sp_X10_knows]
            repeat' (first | (refine And.intro ?_ ?_) | (intro _))
            all_goals (first | with_reducible assumption | omega | (exfalso; omega) | exact e0 _ _)
        | succ m ih =>
          intro j hm2 hj b hb
          obtain ⟨fj1, fj2⟩ := hf1 j (by omega)
          have kj := hk (fd g j) q fj2 hq2
          clear e0 e1
          rcases hb with ⟨rfl, hb⟩ | ⟨rfl, hb⟩
          · by_cases he : (anC c 9 (fd g i) q).toInt = (anC c 9 (fd g j) q).toInt
            · have ih := ih (j + 1) (by omega) (by omega) 0 (Or.inr ⟨rfl, fun a => a j (by omega) he⟩)
              apply hR 60
              simp (maxSteps := 10000000) (disch := omega) only [hS, hn, sm_eqs, hf, ha, sm_b0, Int.reduceToNat, ↓reduceIte, Nat.reduceEqDiff, true_and, and_true, List.length_nil, List.length_cons, Nat.reduceAdd, Nat.reduceLeDiff, Nat.zero_le, false_implies, true_implies, not_true_eq_false, not_false_eq_true, implies_true, Nat.reduceSub, Nat.reduceMul, Nat.reduceDiv, reduceCtorEq, tn_clamp, nI_t, tn_nI, nI_add, pk_mul, rS_gS, rS_gA, rS_gL, rA_gS, rA_gA, rA_gL, rL_gS, rL_gA, rL_gL, and_self, and_false, false_and, if_true, if_false, true_or, or_true, or_false, false_or, sm_in, eqI, sI_s, Int32.toInt_zero, Int.natCast_zero, Int.natCast_one, Int.cast_ofNat_Int, Int.reduceEq, Int.reduceLT, Int.reduceLE, Int.reduceNeg, Int.reduceNe, ne_eq, n_up, g_up, e_cat, fr_A, fr_O, fr_P, fr_L, sp_X10_knows, fi1, fj1, ki, kj, he]
              repeat' (first | (refine And.intro ?_ ?_) | (intro _))
              all_goals (first | with_reducible assumption | omega | (exfalso; omega))
            · have ih := ih (j + 1) (by omega) (by omega) 1 (Or.inl ⟨rfl, fun u hu => by
                by_cases e : u = j
                · rw [e]; exact he
                · exact hb u (by omega)⟩)
              apply hR 60
              simp (maxSteps := 10000000) (disch := omega) only [hS, hn, sm_eqs, hf, ha, sm_b0, Int.reduceToNat, ↓reduceIte, Nat.reduceEqDiff, true_and, and_true, List.length_nil, List.length_cons, Nat.reduceAdd, Nat.reduceLeDiff, Nat.zero_le, false_implies, true_implies, not_true_eq_false, not_false_eq_true, implies_true, Nat.reduceSub, Nat.reduceMul, Nat.reduceDiv, reduceCtorEq, tn_clamp, nI_t, tn_nI, nI_add, pk_mul, rS_gS, rS_gA, rS_gL, rA_gS, rA_gA, rA_gL, rL_gS, rL_gA, rL_gL, and_self, and_false, false_and, if_true, if_false, true_or, or_true, or_false, false_or, sm_in, eqI, sI_s, Int32.toInt_zero, Int.natCast_zero, Int.natCast_one, Int.cast_ofNat_Int, Int.reduceEq, Int.reduceLT, Int.reduceLE, Int.reduceNeg, Int.reduceNe, ne_eq, n_up, g_up, e_cat, fr_A, fr_O, fr_P, fr_L, sp_X10_knows, fi1, fj1, ki, kj, he]
              repeat' (first | (refine And.intro ?_ ?_) | (intro _))
              all_goals (first | with_reducible assumption | omega | (exfalso; omega))
          · have ih := ih (j + 1) (by omega) (by omega) 0 (Or.inr ⟨rfl, hb⟩)
            apply hR 60
            simp (maxSteps := 10000000) (disch := omega) only [hS, hn, sm_eqs, hf, ha, sm_b0, Int.reduceToNat, ↓reduceIte, Nat.reduceEqDiff, true_and, and_true, List.length_nil, List.length_cons, Nat.reduceAdd, Nat.reduceLeDiff, Nat.zero_le, false_implies, true_implies, not_true_eq_false, not_false_eq_true, implies_true, Nat.reduceSub, Nat.reduceMul, Nat.reduceDiv, reduceCtorEq, tn_clamp, nI_t, tn_nI, nI_add, pk_mul, rS_gS, rS_gA, rS_gL, rA_gS, rA_gA, rA_gL, rL_gS, rL_gA, rL_gL, and_self, and_false, false_and, if_true, if_false, true_or, or_true, or_false, false_or, sm_in, eqI, sI_s, Int32.toInt_zero, Int.natCast_zero, Int.natCast_one, Int.cast_ofNat_Int, Int.reduceEq, Int.reduceLT, Int.reduceLE, Int.reduceNeg, Int.reduceNe, ne_eq, n_up, g_up, e_cat, fr_A, fr_O, fr_P, fr_L, sp_X10_knows]
            repeat' (first | (refine And.intro ?_ ?_) | (intro _))
            all_goals (first | with_reducible assumption | omega | (exfalso; omega))
      have h0 := l2 _ 0 rfl (Nat.zero_le _) 1 (Or.inl ⟨rfl, fun u hu => by omega⟩)
      clear l2 e1 e0
      apply hR 60
      simp (maxSteps := 10000000) (disch := omega) only [hS, hn, sm_eqs, hf, ha, sm_b0, Int.reduceToNat, ↓reduceIte, Nat.reduceEqDiff, true_and, and_true, List.length_nil, List.length_cons, Nat.reduceAdd, Nat.reduceLeDiff, Nat.zero_le, false_implies, true_implies, not_true_eq_false, not_false_eq_true, implies_true, Nat.reduceSub, Nat.reduceMul, Nat.reduceDiv, reduceCtorEq, tn_clamp, nI_t, tn_nI, nI_add, pk_mul, rS_gS, rS_gA, rS_gL, rA_gS, rA_gA, rA_gL, rL_gS, rL_gA, rL_gL, and_self, and_false, false_and, if_true, if_false, true_or, or_true, or_false, false_or, sm_in, eqI, sI_s, Int32.toInt_zero, Int.natCast_zero, Int.natCast_one, Int.cast_ofNat_Int, Int.reduceEq, Int.reduceLT, Int.reduceLE, Int.reduceNeg, Int.reduceNe, ne_eq, n_up, g_up, e_cat, fr_A, fr_O, fr_P, fr_L, sp_X10_knows, hf3]
      repeat' (first | (refine And.intro ?_ ?_) | (intro _))
      all_goals (first | with_reducible assumption | omega | (exfalso; omega) | exact h0)
  have h0 := loop _ 0 rfl (Nat.zero_le _) 0 rfl
  clear hs loop
  apply hR 40
  simp (maxSteps := 10000000) (disch := omega) only [hS, hn, sm_eqs, hf, ha, sm_b0, Int.reduceToNat, ↓reduceIte, Nat.reduceEqDiff, true_and, and_true, List.length_nil, List.length_cons, Nat.reduceAdd, Nat.reduceLeDiff, Nat.zero_le, false_implies, true_implies, not_true_eq_false, not_false_eq_true, implies_true, Nat.reduceSub, Nat.reduceMul, Nat.reduceDiv, reduceCtorEq, tn_clamp, nI_t, tn_nI, nI_add, pk_mul, rS_gS, rS_gA, rS_gL, rA_gS, rA_gA, rA_gL, rL_gS, rL_gA, rL_gL, and_self, and_false, false_and, if_true, if_false, true_or, or_true, or_false, false_or, sm_in, eqI, sI_s, Int32.toInt_zero, Int.natCast_zero, Int.natCast_one, Int.cast_ofNat_Int, Int.reduceEq, Int.reduceLT, Int.reduceLE, Int.reduceNeg, Int.reduceNe, ne_eq, n_up, g_up, e_cat, fr_A, fr_O, fr_P, fr_L, sp_X10_knows]
  exact h0 _ _
theorem ok_X10_classes (l : Launch) (c : sm_G) : sm_spok l lay sm_mt 2 202 (sp_X10_classes c) := Or.inr (Or.inr (Or.inr ⟨by decide, by decide, by
  rw [mt_202]
  exact sm_method (T := TX10_) v_cok v_lok v_ka v_tok_X10 mok_X10_classes rfl (by unfold sm_rk; simp) (wf_X10_classes c) (List.forall_mem_cons.mpr ⟨sm_spok_up (Nat.le_of_ble_eq_true rfl : 1 ≤ 1) (ok_X10_knows l), fun _ h => absurd h List.not_mem_nil⟩) (b_X10_classes c)⟩))
