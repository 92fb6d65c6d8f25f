/-! The reference: strengths, claims that stand. -/
theorem isum_ext (f : Nat → Int32) {m : Nat} : ∀ n, (∀ q, m ≤ q → q < m + n → f q = nI 0) → isum f (m + n) = isum f m := by
  intro n
  induction n with
  | zero => intro _; rfl
  | succ n ih =>
    intro h
    show isum f (m + n) + f (m + n) = _
    rw [ih (fun q h1 h2 => h q h1 (by omega)), h (m + n) (by omega) (by omega)]
    show isum f m + 0 = _
    exact Int32.add_zero _
/-- holders, the thing itself counted in its place -/
theorem hoC_n (c : sm_G) (t q : Nat) : ∀ n, hoC c t q (anC c 9 t q) n + (if t < n then 1 else 0) = 1 + cnt (fun o => dc ((o = t ∨ whyC c o = -1) ∧ (anC c 9 o q).toInt = (anC c 9 t q).toInt)) n := by
  intro n
  induction n with
  | zero => rfl
  | succ n ih =>
    simp only [hoC]
    show _ = 1 + (cnt (fun o => dc ((o = t ∨ whyC c o = -1) ∧ (anC c 9 o q).toInt = (anC c 9 t q).toInt)) n + (if dc ((n = t ∨ whyC c n = -1) ∧ (anC c 9 n q).toInt = (anC c 9 t q).toInt) = true then 1 else 0))
    by_cases e : n = t
    · subst e
      rw [if_neg (show ¬ (n ≠ n ∧ (rA c 23 n).toInt = -1 ∧ (anC c 9 n q).toInt = (anC c 9 n q).toInt) from fun h => h.1 rfl), if_pos (show dc ((n = n ∨ whyC c n = -1) ∧ (anC c 9 n q).toInt = (anC c 9 n q).toInt) = true from dc_t.mpr ⟨Or.inl rfl, rfl⟩), if_pos (show n < n + 1 by omega)]
      rw [if_neg (show ¬ n < n by omega)] at ih
      omega
    · by_cases h : (rA c 23 n).toInt = -1 ∧ (anC c 9 n q).toInt = (anC c 9 t q).toInt
      · rw [if_pos (show n ≠ t ∧ (rA c 23 n).toInt = -1 ∧ (anC c 9 n q).toInt = (anC c 9 t q).toInt from ⟨e, h⟩), if_pos (show dc ((n = t ∨ whyC c n = -1) ∧ (anC c 9 n q).toInt = (anC c 9 t q).toInt) = true from dc_t.mpr ⟨Or.inr h.1, h.2⟩)]
        by_cases hl : t < n
        · rw [if_pos hl] at ih; rw [if_pos (show t < n + 1 by omega)]; omega
        · rw [if_neg hl] at ih; rw [if_neg (show ¬ t < n + 1 by omega)]; omega
      · rw [if_neg (show ¬ (n ≠ t ∧ (rA c 23 n).toInt = -1 ∧ (anC c 9 n q).toInt = (anC c 9 t q).toInt) from fun h2 => h h2.2), if_neg (show ¬ dc ((n = t ∨ whyC c n = -1) ∧ (anC c 9 n q).toInt = (anC c 9 t q).toInt) = true from fun h2 => by
          have := dc_t.mp h2
          rcases this.1 with h3 | h3
          · exact e h3
          · exact h ⟨h3, this.2⟩)]
        by_cases hl : t < n
        · rw [if_pos hl] at ih; rw [if_pos (show t < n + 1 by omega)]; omega
        · rw [if_neg hl] at ih; rw [if_neg (show ¬ t < n + 1 by omega)]; omega
def sp_X10_strengthOf (c : sm_G) : sm_SP := fun as g K => match as with
  | [.ref p, .int r, .int t] => p = 53 ∧ CP c g ∧ sm_in r 60 ∧ okT c t ∧ K (some (.int (stC c (tn r) (tn t)))) g
  | _ => False
theorem wf_X10_strengthOf (c : sm_G) : sm_wf lay (yX10_strengthOf, cX10_strengthOf, 7, (some .int)) 3 false (sp_X10_strengthOf c) := by
  intro as g K h
  simp only [sp_X10_strengthOf] at h
  split at h
  · exact ⟨Nat.le_of_ble_eq_true rfl, by simp, rfl, fun _ => by obtain rfl := h.1; exact ⟨53, _, 10, [1, 1, 56, 57, 58, 59, 60, 61, 1, 1, 62, 63, 64, 65, 66, 67, 68, 69, 70, 71, 72, 73, 1, 74, 75, 76, 77, 1, 1, 78, 79, 1, 80, 1, 81, 1, 82, 83, 84, 85, 86, 1], TX10, 42, rfl, rfl, rfl⟩⟩
  · exact h.elim
set_option maxHeartbeats 4000000 in
set_option maxRecDepth 100000 in
theorem b_X10_strengthOf (c : sm_G) : sm_body lay NX10_strengthOf 7 0 (sm_cl [(177, sp_X10_knows), (170, sp_X10_isOut c)]) (sp_X10_strengthOf c) := by
  intro K J S hW as g hs
  have hn := n_X10_strengthOf
  have hf := fd_all
  have ha := ar_all
  generalize NX10_strengthOf = N at hn hW
  generalize lay = L at hf ha hW
  obtain ⟨hS, hR⟩ := hW
  simp only [sp_X10_strengthOf] at hs
  split at hs
  case h_2 => exact hs.elim
  simp only [e_args, sm_pad, List.length_cons, List.length_nil, Nat.reduceAdd, Nat.reduceSub, List.replicate_succ, List.replicate_zero, List.cons_append, List.nil_append]
  rename_i p r t
  obtain ⟨rfl, h, hr, ht, hs⟩ := hs
  have hn2 := CP_n h
  have hq0 := h.2.1.1
  have ht0 := h.2.2.2.1.1
  obtain ⟨r, hr2, rfl⟩ := sm_in_nI hr
  obtain ⟨t, ht2, rfl⟩ := ok_nI ht
  rw [tn_nI (by omega), tn_nI (by omega)] at hs
  have l2 : ∀ q, q < nQ c → ¬ (anC c 6 r q).toInt = -1 → ¬ (anC c 9 t q).toInt = -1 → ∀ s0 : Int32, J 5 [some (.ref 53), some (.int (nI r)), some (.int (nI t)), some (.int (s0 + woC c t q)), some (.int (nI (q + 1))), some (.int (nI (hoC c t q (anC c 9 t q) (nT c)))), some (.int (nI (nT c)))] [] g → ∀ m o, m = nT c - o → o ≤ nT c → ∀ n, n = cnt (fun o => dc ((o = t ∨ whyC c o = -1) ∧ (anC c 9 o q).toInt = (anC c 9 t q).toInt)) o → J 48 [some (.ref 53), some (.int (nI r)), some (.int (nI t)), some (.int s0), some (.int (nI q)), some (.int (nI n)), some (.int (nI o))] [] g := by
    intro q hq k6 k9 s0 hJ m
    have e9t := h.2.2.1.2.2.1 t q (by omega) (by omega)
    induction m with
    | zero =>
      intro o hm ho n hn9
      obtain rfl : o = nT c := by omega
      have hh := hoC_n c t q (nT c)
      rw [if_pos ht2] at hh
      have hb := hoC_le c t q (anC c 9 t q) (nT c)
      have e56 := h.2.1.2.2.2.1 q hq
      have hcn : n = hoC c t q (anC c 9 t q) (nT c) := by omega
      have ew : woC c t q = nI 12 * rA c 4 q / nI (hoC c t q (anC c 9 t q) (nT c)) := by
        unfold woC; rw [if_neg k9, if_pos hq, Int32.mul_comm]
      rw [ew] at hJ
      subst hcn
      clear hs
      apply hR 60
      simp (maxSteps := 10000000) (disch := omega) only [hS, hn, sm_eqs, hf, ha, sm_b0, Int.reduceToNat, ↓reduceIte, Nat.reduceEqDiff, true_and, and_true, List.length_nil, List.length_cons, Nat.reduceAdd, Nat.reduceLeDiff, Nat.zero_le, false_implies, true_implies, not_true_eq_false, not_false_eq_true, implies_true, Nat.reduceSub, Nat.reduceMul, Nat.reduceDiv, reduceCtorEq, tn_clamp, nI_t, tn_nI, nI_add, pk_mul, rS_gS, rS_gA, rS_gL, rA_gS, rA_gA, rA_gL, rL_gS, rL_gA, rL_gL, and_self, and_false, false_and, if_true, if_false, true_or, or_true, or_false, false_or, sm_in, eqI, sI_s, Int32.toInt_zero, Int.natCast_zero, Int.natCast_one, Int.cast_ofNat_Int, Int.reduceEq, Int.reduceLT, Int.reduceLE, Int.reduceNeg, Int.reduceNe, ne_eq, n_up, g_up, e_cat, fr_A, fr_O, fr_P, fr_L, sp_X10_knows, sp_X10_isOut, ht0, e56]
      clear hn hf ha hS hR
      repeat' (first | (refine And.intro ?_ ?_) | (intro _))
      all_goals (first | with_reducible assumption | omega | (exfalso; omega))
    | succ m ih =>
      intro o hm ho n hn9
      have ih := fun n => ih (o + 1) (by omega) (by omega) n
      have e9o := h.2.2.1.2.2.1 o q (by omega) (by omega)
      have hko : okT c (nI o) := by unfold okT; rw [nI_t (by omega)]; omega
      have hcs : cnt (fun o => dc ((o = t ∨ whyC c o = -1) ∧ (anC c 9 o q).toInt = (anC c 9 t q).toInt)) (o + 1) = n + (if dc ((o = t ∨ whyC c o = -1) ∧ (anC c 9 o q).toInt = (anC c 9 t q).toInt) = true then 1 else 0) := by rw [hn9]; rfl
      rw [hcs] at ih
      have hyes : (o = t ∨ whyC c o = -1) → (anC c 9 o q).toInt = (anC c 9 t q).toInt → J 48 [some (.ref 53), some (.int (nI r)), some (.int (nI t)), some (.int s0), some (.int (nI q)), some (.int (nI (n + 1))), some (.int (nI (o + 1)))] [] g := fun a b => ih _ (by rw [if_pos (dc_t.mpr ⟨a, b⟩)])
      have hno : ¬ ((o = t ∨ whyC c o = -1) ∧ (anC c 9 o q).toInt = (anC c 9 t q).toInt) → J 48 [some (.ref 53), some (.int (nI r)), some (.int (nI t)), some (.int s0), some (.int (nI q)), some (.int (nI (n + 0))), some (.int (nI (o + 1)))] [] g := fun a => ih _ (by rw [if_neg (fun b => a (dc_t.mp b))])
      clear ih hs hJ
      apply hR 60
      simp (maxSteps := 10000000) (disch := omega) only [hS, hn, sm_eqs, hf, ha, sm_b0, Int.reduceToNat, ↓reduceIte, Nat.reduceEqDiff, true_and, and_true, List.length_nil, List.length_cons, Nat.reduceAdd, Nat.reduceLeDiff, Nat.zero_le, false_implies, true_implies, not_true_eq_false, not_false_eq_true, implies_true, Nat.reduceSub, Nat.reduceMul, Nat.reduceDiv, reduceCtorEq, tn_clamp, nI_t, tn_nI, nI_add, pk_mul, rS_gS, rS_gA, rS_gL, rA_gS, rA_gA, rA_gL, rL_gS, rL_gA, rL_gL, and_self, and_false, false_and, if_true, if_false, true_or, or_true, or_false, false_or, sm_in, eqI, sI_s, Int32.toInt_zero, Int.natCast_zero, Int.natCast_one, Int.cast_ofNat_Int, Int.reduceEq, Int.reduceLT, Int.reduceLE, Int.reduceNeg, Int.reduceNe, ne_eq, n_up, g_up, e_cat, fr_A, fr_O, fr_P, fr_L, sp_X10_knows, sp_X10_isOut, ht0, e9o, e9t, h, hko]
      clear hn hf ha hS hR
      repeat' (first | (refine And.intro ?_ ?_) | (intro _))
      all_goals (first | with_reducible assumption | omega | (exfalso; omega) | exact hyes (Or.inl (by omega)) (by assumption) | exact hyes (Or.inr (by assumption)) (by assumption) | exact hno (fun hx => absurd hx.2 (by assumption)) | exact hno (fun hx => by rcases hx.1 with hx1 | hx1; exact absurd hx1 (by omega); contradiction))
  have l1 : ∀ m q, m = nQ c - q → q ≤ nQ c → ∀ v5 v6, J 5 [some (.ref 53), some (.int (nI r)), some (.int (nI t)), some (.int (isum (fun q => if (anC c 6 r q).toInt = -1 then nI 0 else woC c t q) q)), some (.int (nI q)), v5, v6] [] g := by
    intro m
    induction m with
    | zero =>
      intro q hm hq v5 v6
      obtain rfl : q = nQ c := by omega
      have hs : K (some (.int (isum (fun q => if (anC c 6 r q).toInt = -1 then nI 0 else woC c t q) (nQ c)))) g := by
        unfold stC at hs
        have he := isum_ext (fun q => if (anC c 6 r q).toInt = -1 then nI 0 else woC c t q) (m := nQ c) (16 - nQ c) (fun q h1 h2 => by
          have e : (anC c 6 r q).toInt = -1 := by rw [an_hi h.1.2.1.1 hr2 h1]; exact sI_s.1
          (try dsimp only)
          rw [if_pos e])
        rw [show nQ c + (16 - nQ c) = 16 by omega] at he
        rw [he] at hs; exact hs
      clear l2
      apply hR 60
      simp (maxSteps := 10000000) (disch := omega) only [hS, hn, sm_eqs, hf, ha, sm_b0, Int.reduceToNat, ↓reduceIte, Nat.reduceEqDiff, true_and, and_true, List.length_nil, List.length_cons, Nat.reduceAdd, Nat.reduceLeDiff, Nat.zero_le, false_implies, true_implies, not_true_eq_false, not_false_eq_true, implies_true, Nat.reduceSub, Nat.reduceMul, Nat.reduceDiv, reduceCtorEq, tn_clamp, nI_t, tn_nI, nI_add, pk_mul, rS_gS, rS_gA, rS_gL, rA_gS, rA_gA, rA_gL, rL_gS, rL_gA, rL_gL, and_self, and_false, false_and, if_true, if_false, true_or, or_true, or_false, false_or, sm_in, eqI, sI_s, Int32.toInt_zero, Int.natCast_zero, Int.natCast_one, Int.cast_ofNat_Int, Int.reduceEq, Int.reduceLT, Int.reduceLE, Int.reduceNeg, Int.reduceNe, ne_eq, n_up, g_up, e_cat, fr_A, fr_O, fr_P, fr_L, sp_X10_knows, sp_X10_isOut, hq0]
      repeat' (first | (refine And.intro ?_ ?_) | (intro _))
      all_goals (first | with_reducible assumption | omega | (exfalso; omega))
    | succ m ih =>
      intro q hm hq v5 v6
      have ih := ih (q + 1) (by omega) (by omega)
      have e6 := h.2.2.1.2.1 r q hr2 (by omega)
      have e9 := h.2.2.1.2.2.1 t q (by omega) (by omega)
      simp only [isum] at ih
      by_cases k6 : (anC c 6 r q).toInt = -1
      · have ez : ∀ x : Int32, x + nI 0 = x := fun x => Int32.add_zero x
        rw [if_pos k6, ez] at ih
        clear l2 hs
        apply hR 60
        simp (maxSteps := 10000000) (disch := omega) only [hS, hn, sm_eqs, hf, ha, sm_b0, Int.reduceToNat, ↓reduceIte, Nat.reduceEqDiff, true_and, and_true, List.length_nil, List.length_cons, Nat.reduceAdd, Nat.reduceLeDiff, Nat.zero_le, false_implies, true_implies, not_true_eq_false, not_false_eq_true, implies_true, Nat.reduceSub, Nat.reduceMul, Nat.reduceDiv, reduceCtorEq, tn_clamp, nI_t, tn_nI, nI_add, pk_mul, rS_gS, rS_gA, rS_gL, rA_gS, rA_gA, rA_gL, rL_gS, rL_gA, rL_gL, and_self, and_false, false_and, if_true, if_false, true_or, or_true, or_false, false_or, sm_in, eqI, sI_s, Int32.toInt_zero, Int.natCast_zero, Int.natCast_one, Int.cast_ofNat_Int, Int.reduceEq, Int.reduceLT, Int.reduceLE, Int.reduceNeg, Int.reduceNe, ne_eq, n_up, g_up, e_cat, fr_A, fr_O, fr_P, fr_L, sp_X10_knows, sp_X10_isOut, hq0, e6, e9, k6]
        clear hn hf ha hS hR
        have ih := ih v5 v6
        repeat' (first | (refine And.intro ?_ ?_) | (intro _))
        all_goals (first | with_reducible assumption | omega | (exfalso; omega))
      · rw [if_neg k6] at ih
        by_cases k9 : (anC c 9 t q).toInt = -1
        · have ew : woC c t q = 0 := by unfold woC; rw [if_pos k9]; rfl
          rw [ew, Int32.add_zero] at ih
          clear l2 hs
          apply hR 60
          simp (maxSteps := 10000000) (disch := omega) only [hS, hn, sm_eqs, hf, ha, sm_b0, Int.reduceToNat, ↓reduceIte, Nat.reduceEqDiff, true_and, and_true, List.length_nil, List.length_cons, Nat.reduceAdd, Nat.reduceLeDiff, Nat.zero_le, false_implies, true_implies, not_true_eq_false, not_false_eq_true, implies_true, Nat.reduceSub, Nat.reduceMul, Nat.reduceDiv, reduceCtorEq, tn_clamp, nI_t, tn_nI, nI_add, pk_mul, rS_gS, rS_gA, rS_gL, rA_gS, rA_gA, rA_gL, rL_gS, rL_gA, rL_gL, and_self, and_false, false_and, if_true, if_false, true_or, or_true, or_false, false_or, sm_in, eqI, sI_s, Int32.toInt_zero, Int.natCast_zero, Int.natCast_one, Int.cast_ofNat_Int, Int.reduceEq, Int.reduceLT, Int.reduceLE, Int.reduceNeg, Int.reduceNe, ne_eq, n_up, g_up, e_cat, fr_A, fr_O, fr_P, fr_L, sp_X10_knows, sp_X10_isOut, hq0, e6, e9, k6, k9]
          clear hn hf ha hS hR
          have ih := ih v5 v6
          repeat' (first | (refine And.intro ?_ ?_) | (intro _))
          all_goals (first | with_reducible assumption | omega | (exfalso; omega))
        · have h0 := l2 q (by omega) k6 k9 _ (ih _ _) _ 0 rfl (Nat.zero_le _) 0 rfl
          clear l2 hs ih
          apply hR 60
          simp (maxSteps := 10000000) (disch := omega) only [hS, hn, sm_eqs, hf, ha, sm_b0, Int.reduceToNat, ↓reduceIte, Nat.reduceEqDiff, true_and, and_true, List.length_nil, List.length_cons, Nat.reduceAdd, Nat.reduceLeDiff, Nat.zero_le, false_implies, true_implies, not_true_eq_false, not_false_eq_true, implies_true, Nat.reduceSub, Nat.reduceMul, Nat.reduceDiv, reduceCtorEq, tn_clamp, nI_t, tn_nI, nI_add, pk_mul, rS_gS, rS_gA, rS_gL, rA_gS, rA_gA, rA_gL, rL_gS, rL_gA, rL_gL, and_self, and_false, false_and, if_true, if_false, true_or, or_true, or_false, false_or, sm_in, eqI, sI_s, Int32.toInt_zero, Int.natCast_zero, Int.natCast_one, Int.cast_ofNat_Int, Int.reduceEq, Int.reduceLT, Int.reduceLE, Int.reduceNeg, Int.reduceNe, ne_eq, n_up, g_up, e_cat, fr_A, fr_O, fr_P, fr_L, sp_X10_knows, sp_X10_isOut, hq0, e6, e9, k6, k9]
          clear hn hf ha hS hR
          repeat' (first | (refine And.intro ?_ ?_) | (intro _))
          all_goals (first | with_reducible assumption | omega | (exfalso; omega))
  have h0 := l1 _ 0 rfl (Nat.zero_le _) none none
  clear l1 l2 hs
  apply hR 40
  simp (maxSteps := 10000000) (disch := omega) only [hS, hn, sm_eqs, hf, ha, sm_b0, Int.reduceToNat, ↓reduceIte, Nat.reduceEqDiff, true_and, and_true, List.length_nil, List.length_cons, Nat.reduceAdd, Nat.reduceLeDiff, Nat.zero_le, false_implies, true_implies, not_true_eq_false, not_false_eq_true, implies_true, Nat.reduceSub, Nat.reduceMul, Nat.reduceDiv, reduceCtorEq, tn_clamp, nI_t, tn_nI, nI_add, pk_mul, rS_gS, rS_gA, rS_gL, rA_gS, rA_gA, rA_gL, rL_gS, rL_gA, rL_gL, and_self, and_false, false_and, if_true, if_false, true_or, or_true, or_false, false_or, sm_in, eqI, sI_s, Int32.toInt_zero, Int.natCast_zero, Int.natCast_one, Int.cast_ofNat_Int, Int.reduceEq, Int.reduceLT, Int.reduceLE, Int.reduceNeg, Int.reduceNe, ne_eq, n_up, g_up, e_cat, fr_A, fr_O, fr_P, fr_L, sp_X10_knows, sp_X10_isOut]
  exact h0
theorem ok_X10_strengthOf (l : Launch) (c : sm_G) : sm_spok l lay sm_mt 2 185 (sp_X10_strengthOf c) := Or.inr (Or.inr (Or.inr ⟨by decide, by decide, by
  rw [mt_185]
  exact sm_method (T := TX10_) v_cok v_lok v_ka v_tok_X10 mok_X10_strengthOf rfl (by unfold sm_rk; simp) (wf_X10_strengthOf c) (List.forall_mem_cons.mpr ⟨sm_spok_up (Nat.le_of_ble_eq_true rfl : 1 ≤ 1) (ok_X10_knows l), List.forall_mem_cons.mpr ⟨sm_spok_up (Nat.le_of_ble_eq_true rfl : 1 ≤ 1) (ok_X10_isOut l c), fun _ h => absurd h List.not_mem_nil⟩⟩) (b_X10_strengthOf c)⟩))
def sp_X10_strength (c : sm_G) : sm_SP := fun as g K => match as with
  | [.ref p, .int r, .int t] => p = 53 ∧ CP c g ∧ (∀ h, mS g h → CP c h → (okR c r ∧ okT c t ∧ fitC c (tn r) (tn t) → K (some (.int (stC c (tn r) (tn t)))) h) ∧ (okR c r ∧ okT c t ∧ ¬ fitC c (tn r) (tn t) → K (some (.int (sI 0))) h) ∧ (¬ (okR c r ∧ okT c t) → K (some (.int (sI 0))) h))
  | _ => False
theorem wf_X10_strength (c : sm_G) : sm_wf lay (yX10_strength, cX10_strength, 3, (some .int)) 3 false (sp_X10_strength c) := by
  intro as g K h
  simp only [sp_X10_strength] at h
  split at h
  · exact ⟨Nat.le_of_ble_eq_true rfl, by simp, rfl, fun _ => by obtain rfl := h.1; exact ⟨53, _, 10, [1, 1, 56, 57, 58, 59, 60, 61, 1, 1, 62, 63, 64, 65, 66, 67, 68, 69, 70, 71, 72, 73, 1, 74, 75, 76, 77, 1, 1, 78, 79, 1, 80, 1, 81, 1, 82, 83, 84, 85, 86, 1], TX10, 42, rfl, rfl, rfl⟩⟩
  · exact h.elim
set_option maxHeartbeats 4000000 in
set_option maxRecDepth 100000 in
theorem b_X10_strength (c : sm_G) : sm_body lay NX10_strength 3 0 (sm_cl [(169, sp_X10_isReport c), (168, sp_X10_isThing c), (181, sp_X10_isFit c), (185, sp_X10_strengthOf c)]) (sp_X10_strength c) := by
  intro K J S hW as g hs
  have hn := n_X10_strength
  have hf := fd_all
  have ha := ar_all
  generalize NX10_strength = N at hn hW
  generalize lay = L at hf ha hW
  obtain ⟨hS, hR⟩ := hW
  simp only [sp_X10_strength] at hs
  split at hs
  case h_2 => exact hs.elim
  simp only [e_args, sm_pad, List.length_cons, List.length_nil, Nat.reduceAdd, Nat.reduceSub, List.replicate_succ, List.replicate_zero, List.cons_append, List.nil_append]
  rename_i p r t
  obtain ⟨rfl, h, hs⟩ := hs
  obtain ⟨h1, h2, h3⟩ := hs (gS g 53 1000 (nI 0)) (mS_S (mS_rf g)) h
  have fr := fun h9 => okR_60 (r := r) h.1.2.1.2.2.2.2.1 h9
  have ft := fun h9 => okT_60 (t := t) h.1.2.2.1.1 h9
  apply hR 60
  simp (maxSteps := 10000000) (disch := omega) only [hS, hn, sm_eqs, hf, ha, sm_b0, Int.reduceToNat, ↓reduceIte, Nat.reduceEqDiff, true_and, and_true, List.length_nil, List.length_cons, Nat.reduceAdd, Nat.reduceLeDiff, Nat.zero_le, false_implies, true_implies, not_true_eq_false, not_false_eq_true, implies_true, Nat.reduceSub, Nat.reduceMul, Nat.reduceDiv, reduceCtorEq, tn_clamp, nI_t, tn_nI, nI_add, pk_mul, rS_gS, rS_gA, rS_gL, rA_gS, rA_gA, rA_gL, rL_gS, rL_gA, rL_gL, and_self, and_false, false_and, if_true, if_false, true_or, or_true, or_false, false_or, sm_in, eqI, sI_s, Int32.toInt_zero, Int.natCast_zero, Int.natCast_one, Int.cast_ofNat_Int, Int.reduceEq, Int.reduceLT, Int.reduceLE, Int.reduceNeg, Int.reduceNe, ne_eq, n_up, g_up, e_cat, fr_A, fr_O, fr_P, fr_L, sp_X10_isReport, sp_X10_isThing, sp_X10_isFit, sp_X10_strengthOf, h, cp_fr]
  clear hn hf ha hS hR
  repeat' (first | (with_reducible refine And.intro ?_ ?_) | (with_reducible intro _))
  all_goals (first | with_reducible assumption | omega | (exfalso; omega) | grind)
theorem ok_X10_strength (l : Launch) (c : sm_G) : sm_spok l lay sm_mt 4 186 (sp_X10_strength c) := Or.inr (Or.inr (Or.inr ⟨by decide, by decide, by
  rw [mt_186]
  exact sm_method (T := TX10_) v_cok v_lok v_ka v_tok_X10 mok_X10_strength rfl (by unfold sm_rk; simp) (wf_X10_strength c) (List.forall_mem_cons.mpr ⟨sm_spok_up (Nat.le_of_ble_eq_true rfl : 2 ≤ 3) (ok_X10_isReport l c), List.forall_mem_cons.mpr ⟨sm_spok_up (Nat.le_of_ble_eq_true rfl : 2 ≤ 3) (ok_X10_isThing l c), List.forall_mem_cons.mpr ⟨sm_spok_up (Nat.le_of_ble_eq_true rfl : 3 ≤ 3) (ok_X10_isFit l c), List.forall_mem_cons.mpr ⟨sm_spok_up (Nat.le_of_ble_eq_true rfl : 2 ≤ 3) (ok_X10_strengthOf l c), fun _ h => absurd h List.not_mem_nil⟩⟩⟩⟩) (b_X10_strength c)⟩))
