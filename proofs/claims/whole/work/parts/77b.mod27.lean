def sp_X10_match (c : sm_G) : sm_SP := fun as g K => match as with
  | [.ref p] => p = 53 ∧ CP c g ∧ ∃ (R C : Nat) (mem gd : Nat → Nat), R ≤ 10 ∧ C ≤ 20 ∧ rS g 53 1027 = nI R ∧ rS g 53 1028 = nI C ∧ (∀ i, i < R → rA g 74 i = nI (mem i) ∧ mem i < 60 ∧ (rA c 14 (mem i)).toInt = 1) ∧ (∀ j, j < C → rA g 75 j = nI (gd j) ∧ gd j < nT c) ∧
      (∀ S ch W, bstW c R C mem gd W → (∀ i, i < R → ch i = oI ((W i).map gd)) → K none (gS (gL (gA g 77 ch) 76 S) 53 1031 (nI (wss c mem gd W R))))
  | _ => False
theorem wf_X10_match (c : sm_G) : sm_wf lay (yX10_match, cX10_match, 9, none) 1 false (sp_X10_match c) := by
  intro as g K h
  simp only [sp_X10_match] at h
  split at h
  · exact ⟨Nat.le_of_ble_eq_true rfl, by simp, rfl, fun _ => by obtain rfl := h.1; exact ⟨53, _, 10, [1, 1, 56, 57, 58, 59, 60, 61, 1, 1, 62, 63, 64, 65, 66, 67, 68, 69, 70, 71, 72, 73, 1, 74, 75, 76, 77, 1, 1, 78, 79, 1, 80, 1, 81, 1, 82, 83, 84, 85, 86, 1], TX10, 42, rfl, rfl, rfl⟩⟩
  · exact h.elim
set_option maxHeartbeats 4000000 in
set_option maxRecDepth 100000 in
theorem b_X10_match (c : sm_G) : sm_body lay NX10_match 9 4 (sm_cl [(191, sp_X10_worth c)]) (sp_X10_match c) := by
  intro K J S hW as g hs
  have hn := n_X10_match
  have hf := fd_all
  have ha := ar_all
  generalize NX10_match = N at hn hW
  generalize lay = L at hf ha hW
  obtain ⟨hS, hR⟩ := hW
  simp only [sp_X10_match] at hs
  split at hs
  case h_2 => exact hs.elim
  simp only [e_args, sm_pad, List.length_cons, List.length_nil, Nat.reduceAdd, Nat.reduceSub, List.replicate_succ, List.replicate_zero, List.cons_append, List.nil_append]
  rename_i p
  obtain ⟨rfl, h, R, C, mem, gd, hR, hC, eR, eC, hmem, hgd, hs⟩ := hs
  have hn2 := CP_n h
  have hst := fun r t => stC_bd h.1.1.1 h.1.2.2.1.1 (fun q hq => (h.1.1.2 q hq).2) r t
  obtain ⟨Z, hZ⟩ : ∃ Z, Z = 2 ^ R := ⟨_, rfl⟩
  have hZ1 : 1 ≤ Z ∧ Z ≤ 1024 := by
    have h1 : 2 ^ R ≤ 2 ^ 10 := Nat.pow_le_pow_right (by omega) hR
    have h2 : 0 < 2 ^ R := Nat.pow_pos (by omega)
    omega
  have hsh : nI 1 <<< (nI R &&& 31) = nI Z := by rw [hZ]; exact bi_shl R (by omega)
  obtain ⟨u, hu⟩ : ∃ u, u = uC c mem gd := ⟨_, rfl⟩
  have hub : ∀ i j w, u i j = some w → w ≤ 576460752303423488 := fun i j w hw => by
    rw [hu] at hw
    rw [(uC_some hw).2]
    exact (wt_t (hst _ _).1 (hst _ _).2).2
  have hvb : ∀ n s, val u R C n s ≤ 5764607523034234880 := fun n s => by
    have h1 := val_bd (u := u) (R := R) (C := C) hub n s
    have h2 := cnt_le (fun k => s.testBit k) R
    have h3 := Nat.mul_le_mul_right 576460752303423488 (Nat.le_trans h2 hR)
    exact Nat.le_trans h1 (Nat.le_trans h3 (Nat.le_of_ble_eq_true rfl))
  have hjz : ∀ j, j ≤ C → ∀ s, s < Z → j * Z + s < 21504 := fun j hj s hs9 => by
    have := Nat.mul_le_mul (show j ≤ 20 by omega) hZ1.2
    omega
  have hu1 : ∀ i j, i < R → j < C → ftC c (mem i) (gd j) → u i j = some (wtN (tn (stC c (mem i) (gd j))) i j) := fun i j hi hj hft => by
    rw [hu]; unfold uC
    rw [if_pos ((gF_bit hn2.2.2.1).mpr ⟨(hmem i hi).2.2, (hgd j hj).2, hft⟩)]
  have hu0 : ∀ i j, i < R → j < C → ¬ ftC c (mem i) (gd j) → u i j = none := fun i j hi hj hft => by
    rw [hu]; unfold uC
    rw [if_neg (fun hb => hft ((gF_bit hn2.2.2.1).mp hb).2.2)]
  have hneg : (lg_cmp (Int64.ofInt (-1)) (lN 0)).toInt < 0 := by rw [lgc_lt]; decide
  have hxb : ∀ s i, s < Z → i < R → s ^^^ 2 ^ i < Z := fun s i a b => by
    rw [hZ] at a ⊢
    exact Nat.xor_lt_two_pow a (Nat.pow_lt_pow_right (by omega) b)
  have hxn : ∀ s i, i < R → nI s ^^^ nI 1 <<< (nI i &&& 31) = nI (s ^^^ 2 ^ i) := fun s i hi => by
    rw [bi_shl i (by omega), nI_xor]
  have hbt : ∀ s i, s < Z → i < R → ((nI s >>> (nI i &&& 31) &&& nI 1).toInt = 0) = (s.testBit i = false) := fun s i a b => by
    rw [bi_and (by omega), bi_nI (by omega)]
  obtain ⟨V, hV⟩ : ∃ V, V = val u R C C (2 ^ R - 1) / 16679880978201 := ⟨_, rfl⟩
  -- the way back
  have back : ∀ S, sOK u R C Z 0 S → ∀ d j, d = C - j → j ≤ C → ∀ s W ch, wb u R C j s W → (∀ i, i < R → ch i = oI ((W i).map gd)) → ∀ v4 v5 v6 v7 v8,
      J 240 [some (.ref 53), some (.int (nI Z)), some (.int (nI s)), some (.int (nI j)), v4, v5, v6, v7, v8] [] (gS (gL (gA g 77 ch) 76 S) 53 1031 (nI V)) := by
    intro S hS9 d
    induction d with
    | zero =>
      intro j hd hj s W ch hw hch v4 v5 v6 v7 v8
      obtain rfl : j = C := by omega
      rw [hu] at hw
      obtain ⟨b1, b2⟩ := wb_bst hw
      have hs := hs S ch W b1 hch
      rw [← wss_eq hR b2, ← hu, ← hV] at hs
      clear hV
      clear hw b1 b2
      apply hR 60
      simp (maxSteps := 10000000) (disch := omega) only [hS, hn, sm_eqs, hf, ha, sm_b0, Int.reduceToNat, ↓reduceIte, Nat.reduceEqDiff, true_and, and_true, List.length_nil, List.length_cons, Nat.reduceAdd, Nat.reduceLeDiff, Nat.zero_le, false_implies, true_implies, not_true_eq_false, not_false_eq_true, implies_true, Nat.reduceSub, Nat.reduceMul, reduceCtorEq, tn_clamp, nI_t, tn_nI, nI_add, pk_mul, rS_gS, rS_gA, rS_gL, rA_gS, rA_gA, rA_gL, rL_gS, rL_gA, rL_gL, and_self, and_false, false_and, if_true, if_false, true_or, or_true, or_false, false_or, sm_in, eqI, sI_s, Int32.toInt_zero, Int.natCast_zero, Int.natCast_one, Int.cast_ofNat_Int, Int.reduceEq, Int.reduceLT, Int.reduceLE, Int.reduceNeg, Int.reduceNe, ne_eq, n_up, g_up, e_cat, fr_A, fr_O, fr_P, fr_L, sp_X10_worth, eC]
      clear hn hf ha hS hR
      repeat' (first | (refine And.intro ?_ ?_) | (intro _))
      all_goals (first | with_reducible assumption | omega | (exfalso; omega))
    | succ d ih =>
      clear hV
      intro j hd hj s W ch hw hch v4 v5 v6 v7 v8
      have hsZ : s < Z := by rw [hZ]; exact hw.1
      have hr1 := hS9 j (by omega) hj s hsZ
      have hr2 := hS9 (j + 1) (by omega) (by omega) s hsZ
      have hb1 := hjz j hj s hsZ
      have hb2 := hjz (j + 1) (by omega) s hsZ
      have q1 := hvb (C - j) s
      have q2 := hvb (C - (j + 1)) s
      have hc := (lgc_n (a := val u R C (C - j) s) (b := val u R C (C - (j + 1)) s) (by omega) (by omega)).1
      have ih := fun s W ch hw hch => ih (j + 1) (by omega) (by omega) s W ch hw hch
      clear hs
      by_cases e : val u R C (C - j) s = val u R C (C - (j + 1)) s
      · have ih := ih s W ch (wb_same hw e) hch v4 v5 v6 v7 v8
        rw [eq_true e] at hc
        clear hw
        apply hR 60
        simp (maxSteps := 10000000) (disch := omega) only [hS, hn, sm_eqs, hf, ha, sm_b0, Int.reduceToNat, ↓reduceIte, Nat.reduceEqDiff, true_and, and_true, List.length_nil, List.length_cons, Nat.reduceAdd, Nat.reduceLeDiff, Nat.zero_le, false_implies, true_implies, not_true_eq_false, not_false_eq_true, implies_true, Nat.reduceSub, Nat.reduceMul, reduceCtorEq, tn_clamp, nI_t, tn_nI, nI_add, pk_mul, rS_gS, rS_gA, rS_gL, rA_gS, rA_gA, rA_gL, rL_gS, rL_gA, rL_gL, and_self, and_false, false_and, if_true, if_false, true_or, or_true, or_false, false_or, sm_in, eqI, sI_s, Int32.toInt_zero, Int.natCast_zero, Int.natCast_one, Int.cast_ofNat_Int, Int.reduceEq, Int.reduceLT, Int.reduceLE, Int.reduceNeg, Int.reduceNe, ne_eq, n_up, g_up, e_cat, fr_A, fr_O, fr_P, fr_L, sp_X10_worth, eC, hr1, hr2, hc]
        clear hn hf ha hS hR
        fail "G"
      · have hv := vst_at (val u R C (C - (j + 1))) (fun i => u i j) s R
        rw [← valj (by omega)] at hv
        have hv : ∃ i w, i < R ∧ u i j = some w ∧ s.testBit i = true ∧ w + val u R C (C - (j + 1)) (s ^^^ 2 ^ i) = val u R C (C - j) s := by
          rcases hv with h | h
          · exact absurd h e
          · exact h
        obtain ⟨i0, w0, o1, o2, o3, o4⟩ := hv
        have srch : ∀ d i, d = i0 - i → i ≤ i0 → ∀ v5 v6 v7 v8, J 280 [some (.ref 53), some (.int (nI Z)), some (.int (nI s)), some (.int (nI j)), some (.int (nI i)), v5, v6, v7, v8] [] (gS (gL (gA g 77 ch) 76 S) 53 1031 (nI V)) := by
          have one : ∀ i, i ≤ i0 → (i < i0 → ∀ v5 v6 v7 v8, J 280 [some (.ref 53), some (.int (nI Z)), some (.int (nI s)), some (.int (nI j)), some (.int (nI (i + 1))), v5, v6, v7, v8] [] (gS (gL (gA g 77 ch) 76 S) 53 1031 (nI V))) → ∀ v5 v6 v7 v8, J 280 [some (.ref 53), some (.int (nI Z)), some (.int (nI s)), some (.int (nI j)), some (.int (nI i)), v5, v6, v7, v8] [] (gS (gL (gA g 77 ch) 76 S) 53 1031 (nI V)) := by
            intro i hi hnx v5 v6 v7 v8
            have hiR : i < R := by omega
            obtain ⟨em, lm, om⟩ := hmem i hiR
            obtain ⟨ed, ld⟩ := hgd j (by omega)
            have hok : okT c (nI (gd j)) := by unfold okT; rw [nI_t (by omega)]; omega
            have hcp : CP c (gS (gL (gA g 77 ch) 76 S) 53 1031 (nI V)) := by simp only [cp_fr]; exact h
            have hbit := hbt s i hsZ hiR
            cases hb : s.testBit i with
            | false =>
              have hnx := hnx (by
                by_cases e2 : i = i0
                · rw [e2, o3] at hb; cases hb
                · omega) v5 v6 v7 v8
              rw [hb] at hbit
              clear ih hw
              apply hR 60
              simp (maxSteps := 10000000) (disch := omega) only [hS, hn, sm_eqs, hf, ha, sm_b0, Int.reduceToNat, ↓reduceIte, Nat.reduceEqDiff, true_and, and_true, List.length_nil, List.length_cons, Nat.reduceAdd, Nat.reduceLeDiff, Nat.zero_le, false_implies, true_implies, not_true_eq_false, not_false_eq_true, implies_true, Nat.reduceSub, Nat.reduceMul, reduceCtorEq, tn_clamp, nI_t, tn_nI, nI_add, pk_mul, rS_gS, rS_gA, rS_gL, rA_gS, rA_gA, rA_gL, rL_gS, rL_gA, rL_gL, and_self, and_false, false_and, if_true, if_false, true_or, or_true, or_false, false_or, sm_in, eqI, sI_s, Int32.toInt_zero, Int.natCast_zero, Int.natCast_one, Int.cast_ofNat_Int, Int.reduceEq, Int.reduceLT, Int.reduceLE, Int.reduceNeg, Int.reduceNe, ne_eq, n_up, g_up, e_cat, fr_A, fr_O, fr_P, fr_L, sp_X10_worth, hbit]
              clear hn hf ha hS hR
              repeat' (first | (refine And.intro ?_ ?_) | (intro _))
              all_goals (first | with_reducible assumption | omega | (exfalso; omega))
            | true =>
              rw [hb] at hbit
              have hbit : ((nI s >>> (nI i &&& 31) &&& nI 1).toInt = 0) = False := by rw [hbit]; exact eq_false (by decide)
              by_cases hft : ftC c (mem i) (gd j)
              · have huw := hu1 i j hiR (by omega) hft
                obtain ⟨w, hwd⟩ : ∃ w, w = wtN (tn (stC c (mem i) (gd j))) i j := ⟨_, rfl⟩
                rw [← hwd] at huw
                have q3 := hub i j w huw
                have hx9 := hxb s i hsZ hiR
                have q4 := hvb (C - (j + 1)) (s ^^^ 2 ^ i)
                have hr3 := hS9 (j + 1) (by omega) (by omega) (s ^^^ 2 ^ i) hx9
                have hb3 := hjz (j + 1) (by omega) (s ^^^ 2 ^ i) hx9
                have hc2 := (lgc_n (a := w) (b := 0) (by omega) (by omega)).2.2
                have hc3 := (lgc_n (a := w + val u R C (C - (j + 1)) (s ^^^ 2 ^ i)) (b := val u R C (C - j) s) (by omega) (by omega)).1
                have hxn9 := hxn s i hiR
                by_cases e3 : w + val u R C (C - (j + 1)) (s ^^^ 2 ^ i) = val u R C (C - j) s
                · rw [eq_true e3] at hc3
                  have ih := ih (s ^^^ 2 ^ i) _ (upd ch i (nI (gd j))) (wb_give hw hiR hb huw e3) (fun k hk => by
                    (try dsimp only)
                    by_cases e4 : k = i
                    · rw [e4, pk_us, if_pos rfl]; rfl
                    · rw [pk_un e4, if_neg e4]; exact hch k hk) (some (.int (nI i))) v5 v6 v7 v8
                  clear hnx hw
                  apply hR 200
                  simp (maxSteps := 10000000) (disch := omega) only [hS, hn, sm_eqs, hf, ha, sm_b0, Int.reduceToNat, ↓reduceIte, Nat.reduceEqDiff, true_and, and_true, List.length_nil, List.length_cons, Nat.reduceAdd, Nat.reduceLeDiff, Nat.zero_le, false_implies, true_implies, not_true_eq_false, not_false_eq_true, implies_true, Nat.reduceSub, Nat.reduceMul, reduceCtorEq, tn_clamp, nI_t, tn_nI, nI_add, pk_mul, rS_gS, rS_gA, rS_gL, rA_gS, rA_gA, rA_gL, rL_gS, rL_gA, rL_gL, and_self, and_false, false_and, if_true, if_false, true_or, or_true, or_false, false_or, sm_in, eqI, sI_s, Int32.toInt_zero, Int.natCast_zero, Int.natCast_one, Int.cast_ofNat_Int, Int.reduceEq, Int.reduceLT, Int.reduceLE, Int.reduceNeg, Int.reduceNe, ne_eq, n_up, g_up, e_cat, fr_A, fr_O, fr_P, fr_L, sp_X10_worth, em, ed, hbit, hcp, hok, hft, ← hwd, hr1, hr3, hc2, hc3, hxn9]
                  clear hn hf ha hS hR
                  fail "G"
                · have hnx := hnx (by
                    by_cases e2 : i = i0
                    · rw [e2, o2] at huw
                      injection huw with huw
                      rw [← huw, e2] at e3
                      exact absurd o4 e3
                    · omega) v5 v6 v7 v8
                  rw [eq_false e3] at hc3
                  clear ih hw
                  apply hR 200
                  simp (maxSteps := 10000000) (disch := omega) only [hS, hn, sm_eqs, hf, ha, sm_b0, Int.reduceToNat, ↓reduceIte, Nat.reduceEqDiff, true_and, and_true, List.length_nil, List.length_cons, Nat.reduceAdd, Nat.reduceLeDiff, Nat.zero_le, false_implies, true_implies, not_true_eq_false, not_false_eq_true, implies_true, Nat.reduceSub, Nat.reduceMul, reduceCtorEq, tn_clamp, nI_t, tn_nI, nI_add, pk_mul, rS_gS, rS_gA, rS_gL, rA_gS, rA_gA, rA_gL, rL_gS, rL_gA, rL_gL, and_self, and_false, false_and, if_true, if_false, true_or, or_true, or_false, false_or, sm_in, eqI, sI_s, Int32.toInt_zero, Int.natCast_zero, Int.natCast_one, Int.cast_ofNat_Int, Int.reduceEq, Int.reduceLT, Int.reduceLE, Int.reduceNeg, Int.reduceNe, ne_eq, n_up, g_up, e_cat, fr_A, fr_O, fr_P, fr_L, sp_X10_worth, em, ed, hbit, hcp, hok, hft, ← hwd, hr1, hr3, hc2, hc3, hxn9]
                  clear hn hf ha hS hR
                  fail "G"
              · have huw := hu0 i j hiR (by omega) hft
                have hnx := hnx (by
                  by_cases e2 : i = i0
                  · rw [e2, o2] at huw; cases huw
                  · omega) v5 v6 v7 v8
                clear ih hw
                apply hR 100
                simp (maxSteps := 10000000) (disch := omega) only [hS, hn, sm_eqs, hf, ha, sm_b0, Int.reduceToNat, ↓reduceIte, Nat.reduceEqDiff, true_and, and_true, List.length_nil, List.length_cons, Nat.reduceAdd, Nat.reduceLeDiff, Nat.zero_le, false_implies, true_implies, not_true_eq_false, not_false_eq_true, implies_true, Nat.reduceSub, Nat.reduceMul, reduceCtorEq, tn_clamp, nI_t, tn_nI, nI_add, pk_mul, rS_gS, rS_gA, rS_gL, rA_gS, rA_gA, rA_gL, rL_gS, rL_gA, rL_gL, and_self, and_false, false_and, if_true, if_false, true_or, or_true, or_false, false_or, sm_in, eqI, sI_s, Int32.toInt_zero, Int.natCast_zero, Int.natCast_one, Int.cast_ofNat_Int, Int.reduceEq, Int.reduceLT, Int.reduceLE, Int.reduceNeg, Int.reduceNe, ne_eq, n_up, g_up, e_cat, fr_A, fr_O, fr_P, fr_L, sp_X10_worth, em, ed, hbit, hcp, hok, hft, hneg]
                clear hn hf ha hS hR
                fail "G"
          intro d
          induction d with
          | zero =>
            intro i hd2 hi
            exact one i hi (fun hx => by omega)
          | succ d ih2 =>
            intro i hd2 hi
            exact one i hi (fun hx => ih2 (i + 1) (by omega) (by omega))
        have h0 := srch _ 0 rfl (Nat.zero_le _) v5 v6 v7 v8
        rw [eq_false e] at hc
        clear hw ih srch
        apply hR 60
        simp (maxSteps := 10000000) (disch := omega) only [hS, hn, sm_eqs, hf, ha, sm_b0, Int.reduceToNat, ↓reduceIte, Nat.reduceEqDiff, true_and, and_true, List.length_nil, List.length_cons, Nat.reduceAdd, Nat.reduceLeDiff, Nat.zero_le, false_implies, true_implies, not_true_eq_false, not_false_eq_true, implies_true, Nat.reduceSub, Nat.reduceMul, reduceCtorEq, tn_clamp, nI_t, tn_nI, nI_add, pk_mul, rS_gS, rS_gA, rS_gL, rA_gS, rA_gA, rA_gL, rL_gS, rL_gA, rL_gL, and_self, and_false, false_and, if_true, if_false, true_or, or_true, or_false, false_or, sm_in, eqI, sI_s, Int32.toInt_zero, Int.natCast_zero, Int.natCast_one, Int.cast_ofNat_Int, Int.reduceEq, Int.reduceLT, Int.reduceLE, Int.reduceNeg, Int.reduceNe, ne_eq, n_up, g_up, e_cat, fr_A, fr_O, fr_P, fr_L, sp_X10_worth, eC, hr1, hr2, hc]
        clear hn hf ha hS hR
        fail "G"
  fail "BACK DONE"
theorem ok_X10_match (l : Launch) (c : sm_G) : sm_spok l lay sm_mt 6 192 (sp_X10_match c) := Or.inr (Or.inr (Or.inr ⟨by decide, by decide, by
  rw [mt_192]
  exact sm_method (T := TX10_) v_cok v_lok v_ka v_tok_X10 mok_X10_match rfl (by unfold sm_rk; simp) (wf_X10_match c) (List.forall_mem_cons.mpr ⟨sm_spok_up (Nat.le_of_ble_eq_true rfl : 5 ≤ 5) (ok_X10_worth l c), fun _ h => absurd h List.not_mem_nil⟩) (b_X10_match c)⟩))
