/-! The assignment begins. -/
theorem rem31 {a : Nat} (ha : a < 2147483648) : nI a - nI a / nI 31 * nI 31 = nI (a % 31) := pk_rem ha (by omega) (by omega)
def sp_X1_start : sm_SP := fun as g K => match as with
  | [.ref p, .int r, .int c] => p = 34 ∧ ∃ R C, R ≤ 10 ∧ C ≤ 20 ∧ r = nI R ∧ c = nI C ∧ (∀ (cst : Nat → Int64) (gn : Nat → Int32) (rp cp : Nat → Int64) (hd : Nat → Int32),
      (∀ i, i < 341 → cst i = if i % 31 ≤ C then lN 1152921504606846976 else lN 0) → (∀ i, i < 341 → gn i = nI 0) → (∀ i, i < 11 → rp i = lN 0) → (∀ j, j < 31 → cp j = lN 0) → (∀ j, j < 31 → hd j = nI 0) →
      K none (gS (gS (gS (gL (gL (gL (gA (gA g 36 gn) 41 hd) 35 cst) 37 rp) 38 cp) 34 108 (nI R)) 34 109 (nI C)) 34 110 (nI (C + R))))
  | _ => False
theorem wf_X1_start : sm_wf lay (yX1_start, cX1_start, 4, none) 3 false sp_X1_start := by
  intro as g K h
  simp only [sp_X1_start] at h
  split at h
  · exact ⟨Nat.le_of_ble_eq_true rfl, by simp, rfl, fun _ => by obtain rfl := h.1; exact ⟨34, _, 1, [37, 38, 39, 40, 41, 42, 43, 44, 1, 1, 1], TX1, 11, rfl, rfl, rfl⟩⟩
  · exact h.elim
set_option maxHeartbeats 4000000 in
set_option maxRecDepth 100000 in
theorem b_X1_start : sm_body lay NX1_start 4 4 (sm_cl [(228, sp_max), (229, sp_min)]) sp_X1_start := by
  intro K J S hW as g hs
  have hn := n_X1_start
  have hf := fd_all
  have ha := ar_all
  generalize NX1_start = N at hn hW
  generalize lay = L at hf ha hW
  obtain ⟨hS, hR⟩ := hW
  simp only [sp_X1_start] at hs
  split at hs
  case h_2 => exact hs.elim
  simp only [e_args, sm_pad, List.length_cons, List.length_nil, Nat.reduceAdd, Nat.reduceSub, List.replicate_succ, List.replicate_zero, List.cons_append, List.nil_append]
  rename_i p r c
  obtain ⟨rfl, R, C, hR10, hC20, rfl, rfl, hs⟩ := hs
  have l3 : ∀ m j, m = 31 - j → j ≤ 31 → ∀ cst gn rp cp hd, (∀ i, i < 341 → cst i = if i % 31 ≤ C then lN 1152921504606846976 else lN 0) → (∀ i, i < 341 → gn i = nI 0) → (∀ i, i < 11 → rp i = lN 0) → (∀ i, i < j → cp i = lN 0) → (∀ i, i < j → hd i = nI 0) →
      J 112 [some (.ref 34), some (.int (nI R)), some (.int (nI C)), some (.int (nI j))] [] (gS (gS (gS (gL (gL (gL (gA (gA g 36 gn) 41 hd) 35 cst) 37 rp) 38 cp) 34 108 (nI R)) 34 109 (nI C)) 34 110 (nI (C + R))) := by
    intro m
    induction m with
    | zero =>
      intro j hm hj cst gn rp cp hd h1 h2 h3 h4 h5
      obtain rfl : j = 31 := by omega
      have hs := hs cst gn rp cp hd h1 h2 h3 h4 h5
      apply hR 60
      simp (maxSteps := 10000000) (disch := omega) only [hS, hn, sm_eqs, hf, ha, sm_b0, Int.reduceToNat, ↓reduceIte, Nat.reduceEqDiff, true_and, and_true, List.length_nil, List.length_cons, Nat.reduceAdd, Nat.reduceLeDiff, Nat.zero_le, false_implies, true_implies, not_true_eq_false, not_false_eq_true, implies_true, Nat.reduceSub, Nat.reduceMul, Nat.reduceDiv, reduceCtorEq, tn_clamp, nI_t, tn_nI, nI_add, pk_mul, rS_gS, rS_gA, rS_gL, rA_gS, rA_gA, rA_gL, rL_gS, rL_gA, rL_gL, and_self, and_false, false_and, if_true, if_false, true_or, or_true, or_false, false_or, sm_in, eqI, sI_s, Int32.toInt_zero, Int.natCast_zero, Int.natCast_one, Int.cast_ofNat_Int, Int.reduceEq, Int.reduceLT, Int.reduceLE, Int.reduceNeg, Int.reduceNe, ne_eq, n_up, g_up, e_cat, fr_A, fr_O, fr_P, fr_L, sp_max, sp_min]
      exact hs
    | succ m ih =>
      intro j hm hj cst gn rp cp hd h1 h2 h3 h4 h5
      have ih := ih (j + 1) (by omega) (by omega) cst gn rp (vp_updL cp j (lN 0)) (upd hd j (nI 0)) h1 h2 h3 (fun i hi => by
        by_cases e : i = j
        · subst e; exact pk_uLs
        · rw [pk_uLn e]; exact h4 i (by omega)) (fun i hi => by
        by_cases e : i = j
        · subst e; exact pk_us
        · rw [pk_un e]; exact h5 i (by omega))
      clear hs
      apply hR 60
      simp (maxSteps := 10000000) (disch := omega) only [hS, hn, sm_eqs, hf, ha, sm_b0, Int.reduceToNat, ↓reduceIte, Nat.reduceEqDiff, true_and, and_true, List.length_nil, List.length_cons, Nat.reduceAdd, Nat.reduceLeDiff, Nat.zero_le, false_implies, true_implies, not_true_eq_false, not_false_eq_true, implies_true, Nat.reduceSub, Nat.reduceMul, Nat.reduceDiv, reduceCtorEq, tn_clamp, nI_t, tn_nI, nI_add, pk_mul, rS_gS, rS_gA, rS_gL, rA_gS, rA_gA, rA_gL, rL_gS, rL_gA, rL_gL, and_self, and_false, false_and, if_true, if_false, true_or, or_true, or_false, false_or, sm_in, eqI, sI_s, Int32.toInt_zero, Int.natCast_zero, Int.natCast_one, Int.cast_ofNat_Int, Int.reduceEq, Int.reduceLT, Int.reduceLE, Int.reduceNeg, Int.reduceNe, ne_eq, n_up, g_up, e_cat, fr_A, fr_O, fr_P, fr_L, sp_max, sp_min]
      exact ⟨fun _ => ⟨by omega, by omega, ih⟩, fun h => absurd h (by omega)⟩
  have l2 : ∀ m i, m = 11 - i → i ≤ 11 → ∀ cst gn rp, (∀ i, i < 341 → cst i = if i % 31 ≤ C then lN 1152921504606846976 else lN 0) → (∀ i, i < 341 → gn i = nI 0) → (∀ u, u < i → rp u = lN 0) →
      J 91 [some (.ref 34), some (.int (nI R)), some (.int (nI C)), some (.int (nI i))] [] (gS (gS (gS (gL (gL (gA g 36 gn) 35 cst) 37 rp) 34 108 (nI R)) 34 109 (nI C)) 34 110 (nI (C + R))) := by
    intro m
    induction m with
    | zero =>
      intro i hm hi cst gn rp h1 h2 h3
      obtain rfl : i = 11 := by omega
      have h0 := l3 _ 0 rfl (Nat.zero_le _) cst gn rp (rL g 38) (rA g 41) h1 h2 h3 (fun i h => by omega) (fun i h => by omega)
      rw [show rA g 41 = rA (gA g 36 gn) 41 from rfl, gA_self, show rL g 38 = rL (gL (gL (gA g 36 gn) 35 cst) 37 rp) 38 from rfl, gL_self] at h0
      clear hs l3
      apply hR 60
      simp (maxSteps := 10000000) (disch := omega) only [hS, hn, sm_eqs, hf, ha, sm_b0, Int.reduceToNat, ↓reduceIte, Nat.reduceEqDiff, true_and, and_true, List.length_nil, List.length_cons, Nat.reduceAdd, Nat.reduceLeDiff, Nat.zero_le, false_implies, true_implies, not_true_eq_false, not_false_eq_true, implies_true, Nat.reduceSub, Nat.reduceMul, Nat.reduceDiv, reduceCtorEq, tn_clamp, nI_t, tn_nI, nI_add, pk_mul, rS_gS, rS_gA, rS_gL, rA_gS, rA_gA, rA_gL, rL_gS, rL_gA, rL_gL, and_self, and_false, false_and, if_true, if_false, true_or, or_true, or_false, false_or, sm_in, eqI, sI_s, Int32.toInt_zero, Int.natCast_zero, Int.natCast_one, Int.cast_ofNat_Int, Int.reduceEq, Int.reduceLT, Int.reduceLE, Int.reduceNeg, Int.reduceNe, ne_eq, n_up, g_up, e_cat, fr_A, fr_O, fr_P, fr_L, sp_max, sp_min]
      clear hn hf ha hS hR
      grind
    | succ m ih =>
      intro i hm hi cst gn rp h1 h2 h3
      have ih := ih (i + 1) (by omega) (by omega) cst gn (vp_updL rp i (lN 0)) h1 h2 (fun u hu => by
        by_cases e : u = i
        · subst e; exact pk_uLs
        · rw [pk_uLn e]; exact h3 u (by omega))
      clear hs l3
      apply hR 60
      simp (maxSteps := 10000000) (disch := omega) only [hS, hn, sm_eqs, hf, ha, sm_b0, Int.reduceToNat, ↓reduceIte, Nat.reduceEqDiff, true_and, and_true, List.length_nil, List.length_cons, Nat.reduceAdd, Nat.reduceLeDiff, Nat.zero_le, false_implies, true_implies, not_true_eq_false, not_false_eq_true, implies_true, Nat.reduceSub, Nat.reduceMul, Nat.reduceDiv, reduceCtorEq, tn_clamp, nI_t, tn_nI, nI_add, pk_mul, rS_gS, rS_gA, rS_gL, rA_gS, rA_gA, rA_gL, rL_gS, rL_gA, rL_gL, and_self, and_false, false_and, if_true, if_false, true_or, or_true, or_false, false_or, sm_in, eqI, sI_s, Int32.toInt_zero, Int.natCast_zero, Int.natCast_one, Int.cast_ofNat_Int, Int.reduceEq, Int.reduceLT, Int.reduceLE, Int.reduceNeg, Int.reduceNe, ne_eq, n_up, g_up, e_cat, fr_A, fr_O, fr_P, fr_L, sp_max, sp_min]
      exact ⟨fun h => absurd h (by omega), fun _ => ⟨by omega, ih⟩⟩
  have l1 : ∀ m i, m = 341 - i → i ≤ 341 → ∀ cst gn, (∀ u, u < i → cst u = if u % 31 ≤ C then lN 1152921504606846976 else lN 0) → (∀ u, u < i → gn u = nI 0) →
      J 43 [some (.ref 34), some (.int (nI R)), some (.int (nI C)), some (.int (nI i))] [] (gS (gS (gS (gL (gA g 36 gn) 35 cst) 34 108 (nI R)) 34 109 (nI C)) 34 110 (nI (C + R))) := by
    intro m
    induction m with
    | zero =>
      intro i hm hi cst gn h1 h2
      obtain rfl : i = 341 := by omega
      have h0 := l2 _ 0 rfl (Nat.zero_le _) cst gn (rL g 37) h1 h2 (fun i h => by omega)
      rw [show rL g 37 = rL (gL (gA g 36 gn) 35 cst) 37 from rfl, gL_self] at h0
      clear hs l3 l2
      apply hR 60
      simp (maxSteps := 10000000) (disch := omega) only [hS, hn, sm_eqs, hf, ha, sm_b0, Int.reduceToNat, ↓reduceIte, Nat.reduceEqDiff, true_and, and_true, List.length_nil, List.length_cons, Nat.reduceAdd, Nat.reduceLeDiff, Nat.zero_le, false_implies, true_implies, not_true_eq_false, not_false_eq_true, implies_true, Nat.reduceSub, Nat.reduceMul, Nat.reduceDiv, reduceCtorEq, tn_clamp, nI_t, tn_nI, nI_add, pk_mul, rS_gS, rS_gA, rS_gL, rA_gS, rA_gA, rA_gL, rL_gS, rL_gA, rL_gL, and_self, and_false, false_and, if_true, if_false, true_or, or_true, or_false, false_or, sm_in, eqI, sI_s, Int32.toInt_zero, Int.natCast_zero, Int.natCast_one, Int.cast_ofNat_Int, Int.reduceEq, Int.reduceLT, Int.reduceLE, Int.reduceNeg, Int.reduceNe, ne_eq, n_up, g_up, e_cat, fr_A, fr_O, fr_P, fr_L, sp_max, sp_min]
      clear hn hf ha hS hR
      grind
    | succ m ih =>
      intro i hm hi cst gn h1 h2
      have ih := fun v (hv : v = if i % 31 ≤ C then lN 1152921504606846976 else lN 0) => ih (i + 1) (by omega) (by omega) (vp_updL cst i v) (upd gn i (nI 0)) (fun u hu => by
        by_cases e : u = i
        · subst e; rw [pk_uLs, hv]
        · rw [pk_uLn e]; exact h1 u (by omega)) (fun u hu => by
        by_cases e : u = i
        · subst e; exact pk_us
        · rw [pk_un e]; exact h2 u (by omega))
      have e1 := fun h => ih _ (by rw [if_pos h])
      have e0 := fun h => ih _ (by rw [if_neg h])
      clear hs l3 l2 ih
      apply hR 60
      simp (maxSteps := 10000000) (disch := omega) only [hS, hn, sm_eqs, hf, ha, sm_b0, Int.reduceToNat, ↓reduceIte, Nat.reduceEqDiff, true_and, and_true, List.length_nil, List.length_cons, Nat.reduceAdd, Nat.reduceLeDiff, Nat.zero_le, false_implies, true_implies, not_true_eq_false, not_false_eq_true, implies_true, Nat.reduceSub, Nat.reduceMul, Nat.reduceDiv, reduceCtorEq, tn_clamp, nI_t, tn_nI, nI_add, pk_mul, rS_gS, rS_gA, rS_gL, rA_gS, rA_gA, rA_gL, rL_gS, rL_gA, rL_gL, and_self, and_false, false_and, if_true, if_false, true_or, or_true, or_false, false_or, sm_in, eqI, sI_s, Int32.toInt_zero, Int.natCast_zero, Int.natCast_one, Int.cast_ofNat_Int, Int.reduceEq, Int.reduceLT, Int.reduceLE, Int.reduceNeg, Int.reduceNe, ne_eq, n_up, g_up, e_cat, fr_A, fr_O, fr_P, fr_L, sp_max, sp_min, rem31]
      repeat' (first | (refine And.intro ?_ ?_) | (intro _))
      all_goals (first | with_reducible assumption | omega | (exfalso; omega) | exact e1 (by omega) | exact e0 (by omega))
  have h0 := l1 _ 0 rfl (Nat.zero_le _) (rL g 35) (rA g 36) (fun u h => by omega) (fun u h => by omega)
  rw [gA_self, gL_self] at h0
  clear l1 l2 l3 hs
  apply hR 60
  simp (maxSteps := 10000000) (disch := omega) only [hS, hn, sm_eqs, hf, ha, sm_b0, Int.reduceToNat, ↓reduceIte, Nat.reduceEqDiff, true_and, and_true, List.length_nil, List.length_cons, Nat.reduceAdd, Nat.reduceLeDiff, Nat.zero_le, false_implies, true_implies, not_true_eq_false, not_false_eq_true, implies_true, Nat.reduceSub, Nat.reduceMul, Nat.reduceDiv, reduceCtorEq, tn_clamp, nI_t, tn_nI, nI_add, pk_mul, rS_gS, rS_gA, rS_gL, rA_gS, rA_gA, rA_gL, rL_gS, rL_gA, rL_gL, and_self, and_false, false_and, if_true, if_false, true_or, or_true, or_false, false_or, sm_in, eqI, sI_s, Int32.toInt_zero, Int.natCast_zero, Int.natCast_one, Int.cast_ofNat_Int, Int.reduceEq, Int.reduceLT, Int.reduceLE, Int.reduceNeg, Int.reduceNe, ne_eq, n_up, g_up, e_cat, fr_A, fr_O, fr_P, fr_L, sp_max, sp_min, sp_max, sp_min]
  clear hn hf ha hS hR
  grind
theorem ok_X1_start (l : Launch) : sm_spok l lay sm_mt 1 15 sp_X1_start := Or.inr (Or.inr (Or.inr ⟨by decide, by decide, by
  rw [mt_15]
  exact sm_method (T := TX1_) v_cok v_lok v_ka v_tok_X1 mok_X1_start rfl (by unfold sm_rk; simp) wf_X1_start (List.forall_mem_cons.mpr ⟨Or.inr (Or.inl ⟨rfl, rfl⟩), List.forall_mem_cons.mpr ⟨Or.inr (Or.inr (Or.inl ⟨rfl, rfl⟩)), fun _ h => absurd h List.not_mem_nil⟩⟩) b_X1_start⟩))
