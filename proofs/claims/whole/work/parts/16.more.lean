/-! Loops: holds, firstInside, put. -/
/-- from a thing on, up through the bags, whether another one is met within n steps -/
def hld (g : sm_G) (o : Int32) : Nat → Int32 → Prop
  | 0, _ => False
  | n + 1, x => x.toInt ≠ -1 ∧ (x.toInt = o.toInt ∨ (x.toInt ≠ o.toInt ∧ (okT g x ∧ hld g o n (rA g 19 (tn x)))))
def sp_X8_holds : sm_SP := fun as g K => match as with
  | [.ref p, .int o, .int x] => p = 15 ∧ zT g ∧ (hld g o 60 x → K (some (.int (nI 1))) g) ∧ (¬ hld g o 60 x → K (some (.int (nI 0))) g)
  | _ => False
theorem wf_X8_holds : sm_wf lay (yX8_holds, cX8_holds, 5, (some .boolean)) 3 false sp_X8_holds := by
  intro as g K h
  simp only [sp_X8_holds] at h
  split at h
  · exact ⟨Nat.le_of_ble_eq_true rfl, by simp, rfl, fun _ => by obtain rfl := h.1; exact ⟨15, _, 8, [18, 19, 20, 21, 22, 23, 24, 25, 26, 1, 1], TX8, 11, rfl, rfl, rfl⟩⟩
  · exact h.elim
set_option maxHeartbeats 4000000 in
set_option maxRecDepth 100000 in
theorem b_X8_holds : sm_body lay NX8_holds 5 1 (sm_cl [(99, sp_X8_bagOf)]) sp_X8_holds := by
  intro K J S hW as g hs
  have hn := n_X8_holds
  have hf := fd_all
  have ha := ar_all
  generalize NX8_holds = N at hn hW
  generalize lay = L at hf ha hW
  obtain ⟨hS, hR⟩ := hW
  simp only [sp_X8_holds] at hs
  split at hs
  case h_2 => exact hs.elim
  simp only [e_args, sm_pad, List.length_cons, List.length_nil, Nat.reduceAdd, Nat.reduceSub, List.replicate_succ, List.replicate_zero, List.cons_append, List.nil_append]
  rename_i p o x
  obtain ⟨rfl, z, h1, h2⟩ := hs
  have z2 := z.2
  have loop : ∀ m s y, s + m = 60 → (hld g o m y → K (some (.int (nI 1))) g) → (¬ hld g o m y → K (some (.int (nI 0))) g) → J 5 [some (.ref 15), some (.int o), some (.int x), some (.int y), some (.int (nI s))] [] g := by
    intro m
    induction m with
    | zero =>
      intro s y hs h1 h2
      obtain rfl : s = 60 := by omega
      have h2 := h2 (fun h => h)
      apply hR 40
      simp (maxSteps := 10000000) (disch := omega) only [hS, hn, sm_eqs, hf, ha, sm_b0, Int.reduceToNat, ↓reduceIte, Nat.reduceEqDiff, true_and, and_true, List.length_nil, List.length_cons, Nat.reduceAdd, Nat.reduceLeDiff, Nat.zero_le, false_implies, true_implies, not_true_eq_false, not_false_eq_true, implies_true, Nat.reduceSub, Nat.reduceMul, Nat.reduceDiv, reduceCtorEq, tn_clamp, nI_t, tn_nI, nI_add, pk_mul, rS_gS, rS_gA, rS_gL, rA_gS, rA_gA, rA_gL, rL_gS, rL_gA, rL_gL, and_self, and_false, false_and, if_true, if_false, true_or, or_true, or_false, false_or, sm_in, eqI, sI_s, Int32.toInt_zero, Int.natCast_zero, Int.natCast_one, Int.cast_ofNat_Int, Int.reduceEq, Int.reduceLT, Int.reduceLE, Int.reduceNeg, Int.reduceNe, ne_eq, n_up, g_up, e_cat, sp_X8_bagOf, z]
      exact h2
    | succ m ih =>
      intro s y hs h1 h2
      simp only [hld] at h1 h2
      by_cases c1 : y.toInt = -1
      · have h2 := h2 (fun h => h.1 c1)
        apply hR 40
        simp (maxSteps := 10000000) (disch := omega) only [hS, hn, sm_eqs, hf, ha, sm_b0, Int.reduceToNat, ↓reduceIte, Nat.reduceEqDiff, true_and, and_true, List.length_nil, List.length_cons, Nat.reduceAdd, Nat.reduceLeDiff, Nat.zero_le, false_implies, true_implies, not_true_eq_false, not_false_eq_true, implies_true, Nat.reduceSub, Nat.reduceMul, Nat.reduceDiv, reduceCtorEq, tn_clamp, nI_t, tn_nI, nI_add, pk_mul, rS_gS, rS_gA, rS_gL, rA_gS, rA_gA, rA_gL, rL_gS, rL_gA, rL_gL, and_self, and_false, false_and, if_true, if_false, true_or, or_true, or_false, false_or, sm_in, eqI, sI_s, Int32.toInt_zero, Int.natCast_zero, Int.natCast_one, Int.cast_ofNat_Int, Int.reduceEq, Int.reduceLT, Int.reduceLE, Int.reduceNeg, Int.reduceNe, ne_eq, n_up, g_up, e_cat, sp_X8_bagOf, z, c1]
        clear hn hf ha hS hR
        grind
      · by_cases c2 : y.toInt = o.toInt
        · have h1 := h1 ⟨c1, Or.inl c2⟩
          apply hR 40
          simp (maxSteps := 10000000) (disch := omega) only [hS, hn, sm_eqs, hf, ha, sm_b0, Int.reduceToNat, ↓reduceIte, Nat.reduceEqDiff, true_and, and_true, List.length_nil, List.length_cons, Nat.reduceAdd, Nat.reduceLeDiff, Nat.zero_le, false_implies, true_implies, not_true_eq_false, not_false_eq_true, implies_true, Nat.reduceSub, Nat.reduceMul, Nat.reduceDiv, reduceCtorEq, tn_clamp, nI_t, tn_nI, nI_add, pk_mul, rS_gS, rS_gA, rS_gL, rA_gS, rA_gA, rA_gL, rL_gS, rL_gA, rL_gL, and_self, and_false, false_and, if_true, if_false, true_or, or_true, or_false, false_or, sm_in, eqI, sI_s, Int32.toInt_zero, Int.natCast_zero, Int.natCast_one, Int.cast_ofNat_Int, Int.reduceEq, Int.reduceLT, Int.reduceLE, Int.reduceNeg, Int.reduceNe, ne_eq, n_up, g_up, e_cat, sp_X8_bagOf, z, c1, c2]
          clear hn hf ha hS hR
          grind
        · by_cases c3 : okT g y
          · have ih := ih (s + 1) (rA g 19 (tn y)) (by omega) (fun h => h1 ⟨c1, Or.inr ⟨c2, c3, h⟩⟩) (fun h => h2 (fun h3 => h3.2.elim (fun e => c2 e) (fun e => h e.2.2)))
            apply hR 40
            simp (maxSteps := 10000000) (disch := omega) only [hS, hn, sm_eqs, hf, ha, sm_b0, Int.reduceToNat, ↓reduceIte, Nat.reduceEqDiff, true_and, and_true, List.length_nil, List.length_cons, Nat.reduceAdd, Nat.reduceLeDiff, Nat.zero_le, false_implies, true_implies, not_true_eq_false, not_false_eq_true, implies_true, Nat.reduceSub, Nat.reduceMul, Nat.reduceDiv, reduceCtorEq, tn_clamp, nI_t, tn_nI, nI_add, pk_mul, rS_gS, rS_gA, rS_gL, rA_gS, rA_gA, rA_gL, rL_gS, rL_gA, rL_gL, and_self, and_false, false_and, if_true, if_false, true_or, or_true, or_false, false_or, sm_in, eqI, sI_s, Int32.toInt_zero, Int.natCast_zero, Int.natCast_one, Int.cast_ofNat_Int, Int.reduceEq, Int.reduceLT, Int.reduceLE, Int.reduceNeg, Int.reduceNe, ne_eq, n_up, g_up, e_cat, sp_X8_bagOf, z, c1, c2, c3]
            clear hn hf ha hS hR
            grind
          · have h2 := h2 (fun h => h.2.elim (fun e => c2 e) (fun e => c3 e.2.1))
            have ih := ih (s + 1) (sI 0) (by omega) (fun h => by cases m with | zero => exact h.elim | succ m => exact absurd sI_s.1 h.1) (fun _ => h2)
            apply hR 40
            simp (maxSteps := 10000000) (disch := omega) only [hS, hn, sm_eqs, hf, ha, sm_b0, Int.reduceToNat, ↓reduceIte, Nat.reduceEqDiff, true_and, and_true, List.length_nil, List.length_cons, Nat.reduceAdd, Nat.reduceLeDiff, Nat.zero_le, false_implies, true_implies, not_true_eq_false, not_false_eq_true, implies_true, Nat.reduceSub, Nat.reduceMul, Nat.reduceDiv, reduceCtorEq, tn_clamp, nI_t, tn_nI, nI_add, pk_mul, rS_gS, rS_gA, rS_gL, rA_gS, rA_gA, rA_gL, rL_gS, rL_gA, rL_gL, and_self, and_false, false_and, if_true, if_false, true_or, or_true, or_false, false_or, sm_in, eqI, sI_s, Int32.toInt_zero, Int.natCast_zero, Int.natCast_one, Int.cast_ofNat_Int, Int.reduceEq, Int.reduceLT, Int.reduceLE, Int.reduceNeg, Int.reduceNe, ne_eq, n_up, g_up, e_cat, sp_X8_bagOf, z, c1, c2, c3]
            clear hn hf ha hS hR
            grind
  apply hR 40
  simp (maxSteps := 10000000) (disch := omega) only [hS, hn, sm_eqs, hf, ha, sm_b0, Int.reduceToNat, ↓reduceIte, Nat.reduceEqDiff, true_and, and_true, List.length_nil, List.length_cons, Nat.reduceAdd, Nat.reduceLeDiff, Nat.zero_le, false_implies, true_implies, not_true_eq_false, not_false_eq_true, implies_true, Nat.reduceSub, Nat.reduceMul, Nat.reduceDiv, reduceCtorEq, tn_clamp, nI_t, tn_nI, nI_add, pk_mul, rS_gS, rS_gA, rS_gL, rA_gS, rA_gA, rA_gL, rL_gS, rL_gA, rL_gL, and_self, and_false, false_and, if_true, if_false, true_or, or_true, or_false, false_or, sm_in, eqI, sI_s, Int32.toInt_zero, Int.natCast_zero, Int.natCast_one, Int.cast_ofNat_Int, Int.reduceEq, Int.reduceLT, Int.reduceLE, Int.reduceNeg, Int.reduceNe, ne_eq, n_up, g_up, e_cat, sp_X8_bagOf]
  exact loop _ 0 _ rfl h1 h2
theorem ok_X8_holds (l : Launch) : sm_spok l lay sm_mt 3 106 sp_X8_holds := Or.inr (Or.inr (Or.inr ⟨by decide, by decide, by
  rw [mt_106]
  exact sm_method (T := TX8_) v_cok v_lok v_ka v_tok_X8 mok_X8_holds rfl (by unfold sm_rk; simp) wf_X8_holds (List.forall_mem_cons.mpr ⟨sm_spok_up (Nat.le_of_ble_eq_true rfl : 2 ≤ 2) (ok_X8_bagOf l), fun _ h => absurd h List.not_mem_nil⟩) b_X8_holds⟩))
def sp_X8_firstInside : sm_SP := fun as g K => match as with
  | [.ref p, .int b] => p = 15 ∧ zT g ∧ (∀ t, t < nT g → (rA g 19 t).toInt = b.toInt → (∀ u, u < t → (rA g 19 u).toInt ≠ b.toInt) → K (some (.int (nI t))) g) ∧ ((∀ u, u < nT g → (rA g 19 u).toInt ≠ b.toInt) → K (some (.int (sI 0))) g)
  | _ => False
theorem wf_X8_firstInside : sm_wf lay (yX8_firstInside, cX8_firstInside, 3, (some .int)) 2 false sp_X8_firstInside := by
  intro as g K h
  simp only [sp_X8_firstInside] at h
  split at h
  · exact ⟨Nat.le_of_ble_eq_true rfl, by simp, rfl, fun _ => by obtain rfl := h.1; exact ⟨15, _, 8, [18, 19, 20, 21, 22, 23, 24, 25, 26, 1, 1], TX8, 11, rfl, rfl, rfl⟩⟩
  · exact h.elim
set_option maxHeartbeats 4000000 in
set_option maxRecDepth 100000 in
theorem b_X8_firstInside : sm_body lay NX8_firstInside 3 0 (sm_cl []) sp_X8_firstInside := by
  intro K J S hW as g hs
  have hn := n_X8_firstInside
  have hf := fd_all
  have ha := ar_all
  generalize NX8_firstInside = N at hn hW
  generalize lay = L at hf ha hW
  obtain ⟨hS, hR⟩ := hW
  simp only [sp_X8_firstInside] at hs
  split at hs
  case h_2 => exact hs.elim
  simp only [e_args, sm_pad, List.length_cons, List.length_nil, Nat.reduceAdd, Nat.reduceSub, List.replicate_succ, List.replicate_zero, List.cons_append, List.nil_append]
  rename_i p b
  obtain ⟨rfl, z, h1, h2⟩ := hs
  have z2 := z.2
  have loop : ∀ m t, m = nT g - t → t ≤ 60 → (∀ u, u < t → u < nT g → (rA g 19 u).toInt ≠ b.toInt) → J 2 [some (.ref 15), some (.int b), some (.int (nI t))] [] g := by
    intro m
    induction m with
    | zero =>
      intro t hm ht hu
      have h2 := h2 (fun u hu2 => hu u (by omega) hu2)
      apply hR 40
      simp (maxSteps := 10000000) (disch := omega) only [hS, hn, sm_eqs, hf, ha, sm_b0, Int.reduceToNat, ↓reduceIte, Nat.reduceEqDiff, true_and, and_true, List.length_nil, List.length_cons, Nat.reduceAdd, Nat.reduceLeDiff, Nat.zero_le, false_implies, true_implies, not_true_eq_false, not_false_eq_true, implies_true, Nat.reduceSub, Nat.reduceMul, Nat.reduceDiv, reduceCtorEq, tn_clamp, nI_t, tn_nI, nI_add, pk_mul, rS_gS, rS_gA, rS_gL, rA_gS, rA_gA, rA_gL, rL_gS, rL_gA, rL_gL, and_self, and_false, false_and, if_true, if_false, true_or, or_true, or_false, false_or, sm_in, eqI, sI_s, Int32.toInt_zero, Int.natCast_zero, Int.natCast_one, Int.cast_ofNat_Int, Int.reduceEq, Int.reduceLT, Int.reduceLE, Int.reduceNeg, Int.reduceNe, ne_eq, n_up, g_up, e_cat, z.1]
      clear hn hf ha hS hR
      grind
    | succ m ih =>
      intro t hm ht hu
      have h1 := fun h => h1 t (by omega) h (fun u b => hu u b (by omega))
      have ih := fun (h : ¬ (rA g 19 t).toInt = b.toInt) => ih (t + 1) (by omega) (by omega) (fun u b c => by
        by_cases e : u = t
        · rw [e]; exact h
        · exact hu u (by omega) c)
      apply hR 40
      simp (maxSteps := 10000000) (disch := omega) only [hS, hn, sm_eqs, hf, ha, sm_b0, Int.reduceToNat, ↓reduceIte, Nat.reduceEqDiff, true_and, and_true, List.length_nil, List.length_cons, Nat.reduceAdd, Nat.reduceLeDiff, Nat.zero_le, false_implies, true_implies, not_true_eq_false, not_false_eq_true, implies_true, Nat.reduceSub, Nat.reduceMul, Nat.reduceDiv, reduceCtorEq, tn_clamp, nI_t, tn_nI, nI_add, pk_mul, rS_gS, rS_gA, rS_gL, rA_gS, rA_gA, rA_gL, rL_gS, rL_gA, rL_gL, and_self, and_false, false_and, if_true, if_false, true_or, or_true, or_false, false_or, sm_in, eqI, sI_s, Int32.toInt_zero, Int.natCast_zero, Int.natCast_one, Int.cast_ofNat_Int, Int.reduceEq, Int.reduceLT, Int.reduceLE, Int.reduceNeg, Int.reduceNe, ne_eq, n_up, g_up, e_cat, z.1]
      clear hn hf ha hS hR
      grind
  have h0 := loop _ 0 rfl (by omega) (fun u b => by omega)
  clear loop
  apply hR 40
  simp (maxSteps := 10000000) (disch := omega) only [hS, hn, sm_eqs, hf, ha, sm_b0, Int.reduceToNat, ↓reduceIte, Nat.reduceEqDiff, true_and, and_true, List.length_nil, List.length_cons, Nat.reduceAdd, Nat.reduceLeDiff, Nat.zero_le, false_implies, true_implies, not_true_eq_false, not_false_eq_true, implies_true, Nat.reduceSub, Nat.reduceMul, Nat.reduceDiv, reduceCtorEq, tn_clamp, nI_t, tn_nI, nI_add, pk_mul, rS_gS, rS_gA, rS_gL, rA_gS, rA_gA, rA_gL, rL_gS, rL_gA, rL_gL, and_self, and_false, false_and, if_true, if_false, true_or, or_true, or_false, false_or, sm_in, eqI, sI_s, Int32.toInt_zero, Int.natCast_zero, Int.natCast_one, Int.cast_ofNat_Int, Int.reduceEq, Int.reduceLT, Int.reduceLE, Int.reduceNeg, Int.reduceNe, ne_eq, n_up, g_up, e_cat]
  exact h0
theorem ok_X8_firstInside (l : Launch) : sm_spok l lay sm_mt 1 107 sp_X8_firstInside := Or.inr (Or.inr (Or.inr ⟨by decide, by decide, by
  rw [mt_107]
  exact sm_method (T := TX8_) v_cok v_lok v_ka v_tok_X8 mok_X8_firstInside rfl (by unfold sm_rk; simp) wf_X8_firstInside (fun _ h => absurd h List.not_mem_nil) b_X8_firstInside⟩))
theorem gA_self (g : sm_G) (p : Nat) : gA g p (rA g p) = g := by
  refine Prod.ext rfl (Prod.ext (funext fun a => ?_) rfl)
  simp only [gA, rA]; split
  · rename_i h; rw [h]
  · rfl
/-- what a row knows, behind an answer a to q -/
def kbS (k : Int32) (q : Nat) (a : Int32) : Int32 := if a.toInt = -1 then k &&& (nI 1 <<< (nI q &&& 31) ^^^ sI 0) else k ||| nI 1 <<< (nI q &&& 31)
def putG (g : sm_G) (p x q : Nat) (a : Int32) : sm_G := gA (gA (gA g (p / 3 + 83) (upd (rA g (p / 3 + 83)) x (kbS (rA g (p / 3 + 83) x) q a))) (p + 2) (upd (rA g (p + 2)) (x * 16 + q) a)) (p + 1) (upd (rA g (p + 1)) x (if (rA g (p + 1) x).toInt < ((q + 1 : Nat) : Int) then nI (q + 1) else rA g (p + 1) x))
def sp_X7_put : sm_SP := fun as g K => match as with
  | [.ref p, .int x, .int q, .int a] => (p = 6 ∨ p = 9) ∧ sm_in x 60 ∧ sm_in q 16 ∧ K none (putG g p (tn x) (tn q) a)
  | _ => False
theorem wf_X7_put : sm_wf lay (yX7_put, cX7_put, 5, none) 4 false sp_X7_put := by
  intro as g K h
  simp only [sp_X7_put] at h
  split at h
  · exact ⟨Nat.le_of_ble_eq_true rfl, by simp, rfl, fun _ => by
      rcases h.1 with rfl | rfl
      · exact ⟨6, _, 7, [9, 87, 10], TX7, 3, rfl, rfl, rfl⟩
      · exact ⟨9, _, 7, [12, 88, 13], TX7, 3, rfl, rfl, rfl⟩⟩
  · exact h.elim
set_option maxHeartbeats 4000000 in
set_option maxRecDepth 100000 in
theorem b_X7_put : sm_body lay NX7_put 5 4 (sm_cl [(83, sp_X7_isRow), (228, sp_max)]) sp_X7_put := by
  intro K J S hW as g hs
  have hn := n_X7_put
  have hf := fd_all
  have ha := ar_all
  generalize NX7_put = N at hn hW
  generalize lay = L at hf ha hW
  obtain ⟨hS, hR⟩ := hW
  simp only [sp_X7_put] at hs
  split at hs
  case h_2 => exact hs.elim
  simp only [e_args, sm_pad, List.length_cons, List.length_nil, Nat.reduceAdd, Nat.reduceSub, List.replicate_succ, List.replicate_zero, List.cons_append, List.nil_append]
  rename_i p x q a
  obtain ⟨hp, hx, hq, hs⟩ := hs
  obtain ⟨x, hx, rfl⟩ := sm_in_nI hx
  obtain ⟨q, hq, rfl⟩ := sm_in_nI hq
  simp (disch := omega) only [tn_nI, putG, kbS] at hs
  by_cases ha1 : a.toInt = -1
  · rw [if_pos ha1] at hs
    by_cases c : (rA g (p + 1) x).toInt < ((q + 1 : Nat) : Int)
    · rw [if_pos c] at hs
      rcases hp with rfl | rfl
      all_goals apply hR 90
      all_goals simp (maxSteps := 10000000) (disch := omega) only [hS, hn, sm_eqs, hf, ha, sm_b0, Int.reduceToNat, ↓reduceIte, Nat.reduceEqDiff, true_and, and_true, List.length_nil, List.length_cons, Nat.reduceAdd, Nat.reduceLeDiff, Nat.zero_le, false_implies, true_implies, not_true_eq_false, not_false_eq_true, implies_true, Nat.reduceSub, Nat.reduceMul, Nat.reduceDiv, reduceCtorEq, tn_clamp, nI_t, tn_nI, nI_add, pk_mul, rS_gS, rS_gA, rS_gL, rA_gS, rA_gA, rA_gL, rL_gS, rL_gA, rL_gL, and_self, and_false, false_and, if_true, if_false, true_or, or_true, or_false, false_or, sm_in, eqI, sI_s, Int32.toInt_zero, Int.natCast_zero, Int.natCast_one, Int.cast_ofNat_Int, Int.reduceEq, Int.reduceLT, Int.reduceLE, Int.reduceNeg, Int.reduceNe, ne_eq, n_up, g_up, e_cat, sp_X7_isRow, sp_max, sp_max, ha1]
      all_goals simp only [Nat.reduceAdd, Nat.reduceDiv] at hs c
      all_goals clear hn hf ha hS hR
      all_goals grind
    · rw [if_neg c] at hs
      rcases hp with rfl | rfl
      all_goals apply hR 90
      all_goals simp (maxSteps := 10000000) (disch := omega) only [hS, hn, sm_eqs, hf, ha, sm_b0, Int.reduceToNat, ↓reduceIte, Nat.reduceEqDiff, true_and, and_true, List.length_nil, List.length_cons, Nat.reduceAdd, Nat.reduceLeDiff, Nat.zero_le, false_implies, true_implies, not_true_eq_false, not_false_eq_true, implies_true, Nat.reduceSub, Nat.reduceMul, Nat.reduceDiv, reduceCtorEq, tn_clamp, nI_t, tn_nI, nI_add, pk_mul, rS_gS, rS_gA, rS_gL, rA_gS, rA_gA, rA_gL, rL_gS, rL_gA, rL_gL, and_self, and_false, false_and, if_true, if_false, true_or, or_true, or_false, false_or, sm_in, eqI, sI_s, Int32.toInt_zero, Int.natCast_zero, Int.natCast_one, Int.cast_ofNat_Int, Int.reduceEq, Int.reduceLT, Int.reduceLE, Int.reduceNeg, Int.reduceNe, ne_eq, n_up, g_up, e_cat, sp_X7_isRow, sp_max, sp_max, ha1]
      all_goals simp only [Nat.reduceAdd, Nat.reduceDiv] at hs c
      all_goals clear hn hf ha hS hR
      all_goals grind
  · rw [if_neg ha1] at hs
    by_cases c : (rA g (p + 1) x).toInt < ((q + 1 : Nat) : Int)
    · rw [if_pos c] at hs
      rcases hp with rfl | rfl
      all_goals apply hR 90
      all_goals simp (maxSteps := 10000000) (disch := omega) only [hS, hn, sm_eqs, hf, ha, sm_b0, Int.reduceToNat, ↓reduceIte, Nat.reduceEqDiff, true_and, and_true, List.length_nil, List.length_cons, Nat.reduceAdd, Nat.reduceLeDiff, Nat.zero_le, false_implies, true_implies, not_true_eq_false, not_false_eq_true, implies_true, Nat.reduceSub, Nat.reduceMul, Nat.reduceDiv, reduceCtorEq, tn_clamp, nI_t, tn_nI, nI_add, pk_mul, rS_gS, rS_gA, rS_gL, rA_gS, rA_gA, rA_gL, rL_gS, rL_gA, rL_gL, and_self, and_false, false_and, if_true, if_false, true_or, or_true, or_false, false_or, sm_in, eqI, sI_s, Int32.toInt_zero, Int.natCast_zero, Int.natCast_one, Int.cast_ofNat_Int, Int.reduceEq, Int.reduceLT, Int.reduceLE, Int.reduceNeg, Int.reduceNe, ne_eq, n_up, g_up, e_cat, sp_X7_isRow, sp_max, sp_max, ha1]
      all_goals simp only [Nat.reduceAdd, Nat.reduceDiv] at hs c
      all_goals clear hn hf ha hS hR
      all_goals grind
    · rw [if_neg c] at hs
      rcases hp with rfl | rfl
      all_goals apply hR 90
      all_goals simp (maxSteps := 10000000) (disch := omega) only [hS, hn, sm_eqs, hf, ha, sm_b0, Int.reduceToNat, ↓reduceIte, Nat.reduceEqDiff, true_and, and_true, List.length_nil, List.length_cons, Nat.reduceAdd, Nat.reduceLeDiff, Nat.zero_le, false_implies, true_implies, not_true_eq_false, not_false_eq_true, implies_true, Nat.reduceSub, Nat.reduceMul, Nat.reduceDiv, reduceCtorEq, tn_clamp, nI_t, tn_nI, nI_add, pk_mul, rS_gS, rS_gA, rS_gL, rA_gS, rA_gA, rA_gL, rL_gS, rL_gA, rL_gL, and_self, and_false, false_and, if_true, if_false, true_or, or_true, or_false, false_or, sm_in, eqI, sI_s, Int32.toInt_zero, Int.natCast_zero, Int.natCast_one, Int.cast_ofNat_Int, Int.reduceEq, Int.reduceLT, Int.reduceLE, Int.reduceNeg, Int.reduceNe, ne_eq, n_up, g_up, e_cat, sp_X7_isRow, sp_max, sp_max, ha1]
      all_goals simp only [Nat.reduceAdd, Nat.reduceDiv] at hs c
      all_goals clear hn hf ha hS hR
      all_goals grind
theorem ok_X7_put (l : Launch) : sm_spok l lay sm_mt 2 87 sp_X7_put := Or.inr (Or.inr (Or.inr ⟨by decide, by decide, by
  rw [mt_87]
  exact sm_method (T := TX7_) v_cok v_lok v_ka v_tok_X7 mok_X7_put rfl (by unfold sm_rk; simp) wf_X7_put (List.forall_mem_cons.mpr ⟨sm_spok_up (Nat.le_of_ble_eq_true rfl : 1 ≤ 1) (ok_X7_isRow l), List.forall_mem_cons.mpr ⟨Or.inr (Or.inl ⟨rfl, rfl⟩), fun _ h => absurd h List.not_mem_nil⟩⟩) b_X7_put⟩))
