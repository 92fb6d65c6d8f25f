def sp_X10_match (c : sm_G) : sm_SP := fun as g K => match as with
  | [.ref p] => p = 53 ∧ CP c g ∧ ∃ (R C : Nat) (mem gd : Nat → Nat), R ≤ 10 ∧ C ≤ 20 ∧ rS g 53 1027 = nI R ∧ rS g 53 1028 = nI C ∧ (∀ i, i < R → rA g 74 i = nI (mem i) ∧ mem i < 60 ∧ (rA c 14 (mem i)).toInt = 1) ∧ (∀ j, j < C → rA g 75 j = nI (gd j) ∧ gd j < nT c) ∧
      (∀ S ch W, bstW c R C mem gd W → (∀ i, i < R → ch i = oI ((W i).map gd)) → K none (gS (gL (gA g 77 ch) 76 S) 53 1031 (nI (wss c mem gd W R))))
  | _ => False
theorem wf_X10_match (c : sm_G) : sm_wf lay (yX10_match, cX10_match, 9, none) 1 false (sp_X10_match c) := by
  intro as g K h
  simp only [sp_X10_match] at h
  split at h
  · exact ⟨Nat.le_of_ble_eq_true rfl, by simp, rfl, fun _ => by obtain rfl := h.1; exact ⟨53, _, 10, [1, 1, 56, 57, 58, 59, 60, 61, 1, 1, 62, 63, 64, 65, 66, 67, 68, 69, 70, 71, 72, 73, 1, 74, 75, 76, 77, 1, 1, 78, 79, 1, 80, 1, 81, 1, 82, 83, 84, 85, 86, 1], TX10, 42, rfl, rfl, rfl⟩⟩
  · exact h.elim
set_option maxHeartbeats 4000000 in
set_option maxRecDepth 100000 in
theorem b_X10_match (c : sm_G) : sm_body lay NX10_match 9 4 (sm_cl [(192, sp_X10_worth c)]) (sp_X10_match c) := by
  intro K J S hW as g hs
  have hW0 := hW
  have hn := n_X10_match
  have hf := fd_all
  have ha := ar_all
  generalize NX10_match = N at hn hW
  generalize lay = L at hf ha hW
  obtain ⟨hS, hR⟩ := hW
  simp only [sp_X10_match] at hs
  split at hs
  case h_2 => exact hs.elim
  simp only [e_args, sm_pad, List.length_cons, List.length_nil, Nat.reduceAdd, Nat.reduceSub, List.replicate_succ, List.replicate_zero, List.cons_append, List.nil_append]
  rename_i p
  obtain ⟨rfl, h, R, C, mem, gd, hRq, hC, eR, eC, hmem, hgd, hs⟩ := hs
  have hn2 := CP_n h
  have hst := fun r t => stC_bd h.1.1.1 h.1.2.2.1.1 (fun q hq => (h.1.1.2 q hq).2) r t
  obtain ⟨Z, hZ⟩ : ∃ Z, Z = 2 ^ R := ⟨_, rfl⟩
  have hZ1 : 1 ≤ Z ∧ Z ≤ 1024 := by
    have h1 : 2 ^ R ≤ 2 ^ 10 := Nat.pow_le_pow_right (by first | (clear hf; omega) | omega) hRq
    have h2 : 0 < 2 ^ R := Nat.pow_pos (by first | (clear hf; omega) | omega)
    omega
  have hsh : nI 1 <<< (nI R &&& 31) = nI Z := by rw [hZ]; exact bi_shl R (by first | (clear hf; omega) | omega)
  obtain ⟨u, hu⟩ : ∃ u, u = uC c mem gd := ⟨_, rfl⟩
  have hub : ∀ i j w, u i j = some w → w ≤ 576460752303423488 := fun i j w hw => by
    rw [hu] at hw
    rw [(uC_some hw).2]
    exact (wt_t (hst _ _).1 (hst _ _).2).2
  have hvb : ∀ n s, val u R C n s ≤ 5764607523034234880 := fun n s => by
    have h1 := val_bd (u := u) (R := R) (C := C) hub n s
    have h2 := cnt_le (fun k => s.testBit k) R
    have h3 := Nat.mul_le_mul_right 576460752303423488 (Nat.le_trans h2 hRq)
    exact Nat.le_trans h1 (Nat.le_trans h3 (Nat.le_of_ble_eq_true rfl))
  have hjz : ∀ j, j ≤ C → ∀ s, s < Z → j * Z + s < 21504 := fun j hj s hs9 => by
    have := Nat.mul_le_mul (show j ≤ 20 by omega) hZ1.2
    omega
  have hu1 : ∀ i j, i < R → j < C → ftC c (mem i) (gd j) → u i j = some (wtN (tn (stC c (mem i) (gd j))) i j) := fun i j hi hj hft => by
    rw [hu]; unfold uC
    rw [if_pos ((gF_bit hn2.2.2.1).mpr ⟨(hmem i hi).2.2, (hgd j hj).2, hft⟩)]
  have hu0 : ∀ i j, i < R → j < C → ¬ ftC c (mem i) (gd j) → u i j = none := fun i j hi hj hft => by
    rw [hu]; unfold uC
    rw [if_neg (fun hb => hft ((gF_bit hn2.2.2.1).mp hb).2.2)]
  have hneg : (lg_cmp (Int64.ofInt (-1)) (lN 0)).toInt < 0 := by rw [lgc_lt]; decide
  have hxb : ∀ s i, s < Z → i < R → s ^^^ 2 ^ i < Z := fun s i a b => by
    rw [hZ] at a ⊢
    exact Nat.xor_lt_two_pow a (Nat.pow_lt_pow_right (by first | (clear hf; omega) | omega) b)
  have hxn : ∀ s i, i < R → nI s ^^^ nI 1 <<< (nI i &&& 31) = nI (s ^^^ 2 ^ i) := fun s i hi => by
    rw [bi_shl i (by first | (clear hf; omega) | omega), nI_xor]
  have hbt : ∀ s i, s < Z → i < R → ((nI s >>> (nI i &&& 31) &&& nI 1).toInt = 0) = (s.testBit i = false) := fun s i a b => by
    rw [bi_and (by first | (clear hf; omega) | omega), bi_nI (by first | (clear hf; omega) | omega)]
  obtain ⟨V, hV⟩ : ∃ V, V = val u R C C (2 ^ R - 1) / 16679880978201 := ⟨_, rfl⟩
  -- the way back
  have back : ∀ S, sOK u R C Z 0 S → ∀ d j, d = C - j → j ≤ C → ∀ s W ch, wb u R C j s W → (∀ i, i < R → ch i = oI ((W i).map gd)) → ∀ v4 v5 v6 v7 v8,
      J 240 [some (.ref 53), some (.int (nI Z)), some (.int (nI s)), some (.int (nI j)), v4, v5, v6, v7, v8] [] (gS (gL (gA g 77 ch) 76 S) 53 1031 (nI V)) := by
    intro S hS9 d
    induction d with
    | zero =>
      intro j hd hj s W ch hw hch v4 v5 v6 v7 v8
      obtain rfl : j = C := by omega
      rw [hu] at hw
      obtain ⟨b1, b2⟩ := wb_bst hw
      have hs := hs S ch W b1 hch
      rw [← wss_eq hRq b2, ← hu, ← hV] at hs
      clear hV
      clear hw b1 b2
      apply hR 60
      simp (maxSteps := 10000000) (disch := omega) only [hS, hn, sm_eqs, hf, ha, sm_b0, Int.reduceToNat, ↓reduceIte, Nat.reduceEqDiff, true_and, and_true, List.length_nil, List.length_cons, Nat.reduceAdd, Nat.reduceLeDiff, Nat.zero_le, false_implies, true_implies, not_true_eq_false, not_false_eq_true, implies_true, Nat.reduceSub, Nat.reduceMul, Nat.reduceDiv, reduceCtorEq, tn_clamp, nI_t, tn_nI, nI_add, pk_mul, rS_gS, rS_gA, rS_gL, rA_gS, rA_gA, rA_gL, rL_gS, rL_gA, rL_gL, and_self, and_false, false_and, if_true, if_false, true_or, or_true, or_false, false_or, sm_in, eqI, sI_s, Int32.toInt_zero, Int.natCast_zero, Int.natCast_one, Int.cast_ofNat_Int, Int.reduceEq, Int.reduceLT, Int.reduceLE, Int.reduceNeg, Int.reduceNe, ne_eq, n_up, g_up, e_cat, fr_A, fr_O, fr_P, fr_L, sp_X10_worth, eC]
      clear hn hf ha hS hR
      repeat' (first | (refine And.intro ?_ ?_) | (intro _))
      all_goals (first | with_reducible assumption | omega | (exfalso; omega) | fail "G")
    | succ d ih =>
      clear hV
      intro j hd hj s W ch hw hch v4 v5 v6 v7 v8
      have hsZ : s < Z := by rw [hZ]; exact hw.1
      have hr1 := hS9 j (by first | (clear hf; omega) | omega) hj s hsZ
      have hr2 := hS9 (j + 1) (by first | (clear hf; omega) | omega) (by first | (clear hf; omega) | omega) s hsZ
      have hb1 := hjz j hj s hsZ
      have hb2 := hjz (j + 1) (by first | (clear hf; omega) | omega) s hsZ
      have q1 := hvb (C - j) s
      have q2 := hvb (C - (j + 1)) s
      have hc := (lgc_n (a := val u R C (C - j) s) (b := val u R C (C - (j + 1)) s) (by first | (clear hf; omega) | omega) (by first | (clear hf; omega) | omega)).1
      have ih := fun s W ch hw hch => ih (j + 1) (by first | (clear hf; omega) | omega) (by first | (clear hf; omega) | omega) s W ch hw hch
      clear hs
      by_cases e : val u R C (C - j) s = val u R C (C - (j + 1)) s
      · have ih := ih s W ch (wb_same hw e) hch v4 v5 v6 v7 v8
        rw [eq_true e] at hc
        clear hw
        apply hR 60
        simp (maxSteps := 10000000) (disch := omega) only [hS, hn, sm_eqs, hf, ha, sm_b0, Int.reduceToNat, ↓reduceIte, Nat.reduceEqDiff, true_and, and_true, List.length_nil, List.length_cons, Nat.reduceAdd, Nat.reduceLeDiff, Nat.zero_le, false_implies, true_implies, not_true_eq_false, not_false_eq_true, implies_true, Nat.reduceSub, Nat.reduceMul, Nat.reduceDiv, reduceCtorEq, tn_clamp, nI_t, tn_nI, nI_add, pk_mul, rS_gS, rS_gA, rS_gL, rA_gS, rA_gA, rA_gL, rL_gS, rL_gA, rL_gL, and_self, and_false, false_and, if_true, if_false, true_or, or_true, or_false, false_or, sm_in, eqI, sI_s, Int32.toInt_zero, Int.natCast_zero, Int.natCast_one, Int.cast_ofNat_Int, Int.reduceEq, Int.reduceLT, Int.reduceLE, Int.reduceNeg, Int.reduceNe, ne_eq, n_up, g_up, e_cat, fr_A, fr_O, fr_P, fr_L, sp_X10_worth, eC, hr1, hr2, hc]
        clear hn hf ha hS hR
        repeat' (first | (refine And.intro ?_ ?_) | (intro _))
        all_goals (first | with_reducible assumption | omega | (exfalso; omega) | fail "G")
      · have hjC : j < C := by (clear hf; omega)
        have hv1 := vst_at (val u R C (C - (j + 1))) (fun i => u i j) s R
        rw [← valj hjC] at hv1
        obtain ⟨i0, w0, o1, o2, o3, o4⟩ : ∃ i w, i < R ∧ u i j = some w ∧ s.testBit i = true ∧ w + val u R C (C - (j + 1)) (s ^^^ 2 ^ i) = val u R C (C - j) s := by
          rcases hv1 with h | h
          · exact absurd h e
          · exact h
        clear hv1
        have srch : ∀ d i, d = i0 - i → i ≤ i0 → ∀ v5 v6 v7 v8, J 280 [some (.ref 53), some (.int (nI Z)), some (.int (nI s)), some (.int (nI j)), some (.int (nI i)), v5, v6, v7, v8] [] (gS (gL (gA g 77 ch) 76 S) 53 1031 (nI V)) := by
          have one : ∀ i, i ≤ i0 → (i < i0 → ∀ v5 v6 v7 v8, J 280 [some (.ref 53), some (.int (nI Z)), some (.int (nI s)), some (.int (nI j)), some (.int (nI (i + 1))), v5, v6, v7, v8] [] (gS (gL (gA g 77 ch) 76 S) 53 1031 (nI V))) → ∀ v5 v6 v7 v8, J 280 [some (.ref 53), some (.int (nI Z)), some (.int (nI s)), some (.int (nI j)), some (.int (nI i)), v5, v6, v7, v8] [] (gS (gL (gA g 77 ch) 76 S) 53 1031 (nI V)) := by
            intro i hi hnx v5 v6 v7 v8
            have hiR : i < R := by omega
            obtain ⟨em, lm, om⟩ := hmem i hiR
            obtain ⟨ed, ld⟩ := hgd j (by first | (clear hf; omega) | omega)
            have hok : okT c (nI (gd j)) := by unfold okT; rw [nI_t (by first | (clear hf; omega) | omega)]; omega
            have hcp : CP c (gS (gL (gA g 77 ch) 76 S) 53 1031 (nI V)) := by simp only [cp_fr]; exact h
            have hbit := hbt s i hsZ hiR
            cases hb : s.testBit i with
            | false =>
              have hnx := hnx (by
                by_cases e2 : i = i0
                · rw [e2, o3] at hb; cases hb
                · omega) v5 v6 v7 v8
              rw [hb] at hbit
              clear ih hw
              apply hR 60
              simp (maxSteps := 10000000) (disch := omega) only [hS, hn, sm_eqs, hf, ha, sm_b0, Int.reduceToNat, ↓reduceIte, Nat.reduceEqDiff, true_and, and_true, List.length_nil, List.length_cons, Nat.reduceAdd, Nat.reduceLeDiff, Nat.zero_le, false_implies, true_implies, not_true_eq_false, not_false_eq_true, implies_true, Nat.reduceSub, Nat.reduceMul, Nat.reduceDiv, reduceCtorEq, tn_clamp, nI_t, tn_nI, nI_add, pk_mul, rS_gS, rS_gA, rS_gL, rA_gS, rA_gA, rA_gL, rL_gS, rL_gA, rL_gL, and_self, and_false, false_and, if_true, if_false, true_or, or_true, or_false, false_or, sm_in, eqI, sI_s, Int32.toInt_zero, Int.natCast_zero, Int.natCast_one, Int.cast_ofNat_Int, Int.reduceEq, Int.reduceLT, Int.reduceLE, Int.reduceNeg, Int.reduceNe, ne_eq, n_up, g_up, e_cat, fr_A, fr_O, fr_P, fr_L, sp_X10_worth, hbit]
              clear hn hf ha hS hR
              repeat' (first | (refine And.intro ?_ ?_) | (intro _))
              all_goals (first | with_reducible assumption | omega | (exfalso; omega) | fail "G")
            | true =>
              rw [hb] at hbit
              have hbit : ((nI s >>> (nI i &&& 31) &&& nI 1).toInt = 0) = False := by rw [hbit]; exact eq_false (by decide)
              by_cases hft : ftC c (mem i) (gd j)
              · have huw := hu1 i j hiR (by first | (clear hf; omega) | omega) hft
                obtain ⟨w, hwd⟩ : ∃ w, w = wtN (tn (stC c (mem i) (gd j))) i j := ⟨_, rfl⟩
                rw [← hwd] at huw
                have q3 := hub i j w huw
                have hx9 := hxb s i hsZ hiR
                have q4 := hvb (C - (j + 1)) (s ^^^ 2 ^ i)
                have hr3 := hS9 (j + 1) (by first | (clear hf; omega) | omega) (by first | (clear hf; omega) | omega) (s ^^^ 2 ^ i) hx9
                have hb3 := hjz (j + 1) (by first | (clear hf; omega) | omega) (s ^^^ 2 ^ i) hx9
                have hc2 := (lgc_n (a := w) (b := 0) (by first | (clear hf; omega) | omega) (by first | (clear hf; omega) | omega)).2.2
                have hc3 := (lgc_n (a := w + val u R C (C - (j + 1)) (s ^^^ 2 ^ i)) (b := val u R C (C - j) s) (by first | (clear hf; omega) | omega) (by first | (clear hf; omega) | omega)).1
                have hxn9 := hxn s i hiR
                by_cases e3 : w + val u R C (C - (j + 1)) (s ^^^ 2 ^ i) = val u R C (C - j) s
                · rw [eq_true e3] at hc3
                  have ih := ih (s ^^^ 2 ^ i) _ (upd ch i (nI (gd j))) (wb_give hw hiR hb huw e3) (fun k hk => by
                    (try dsimp only)
                    by_cases e4 : k = i
                    · rw [e4, pk_us, if_pos rfl]; rfl
                    · rw [pk_un e4, if_neg e4]; exact hch k hk) (some (.int (nI i))) v5 v6 v7 v8
                  clear hnx hw
                  apply hR 200
                  simp (maxSteps := 10000000) (disch := omega) only [hS, hn, sm_eqs, hf, ha, sm_b0, Int.reduceToNat, ↓reduceIte, Nat.reduceEqDiff, true_and, and_true, List.length_nil, List.length_cons, Nat.reduceAdd, Nat.reduceLeDiff, Nat.zero_le, false_implies, true_implies, not_true_eq_false, not_false_eq_true, implies_true, Nat.reduceSub, Nat.reduceMul, Nat.reduceDiv, reduceCtorEq, tn_clamp, nI_t, tn_nI, nI_add, pk_mul, rS_gS, rS_gA, rS_gL, rA_gS, rA_gA, rA_gL, rL_gS, rL_gA, rL_gL, and_self, and_false, false_and, if_true, if_false, true_or, or_true, or_false, false_or, sm_in, eqI, sI_s, Int32.toInt_zero, Int.natCast_zero, Int.natCast_one, Int.cast_ofNat_Int, Int.reduceEq, Int.reduceLT, Int.reduceLE, Int.reduceNeg, Int.reduceNe, ne_eq, n_up, g_up, e_cat, fr_A, fr_O, fr_P, fr_L, sp_X10_worth, em, ed, hbit, hcp, hok, hft, ← hwd, hr1, hr3, hc2, hc3, hxn9, lN_add]
                  clear hn hf ha hS hR
                  repeat' (first | (refine And.intro ?_ ?_) | (intro _))
                  all_goals (first | with_reducible assumption | omega | (exfalso; omega) | fail "G")
                · have hnx := hnx (by
                    by_cases e2 : i = i0
                    · rw [e2, o2] at huw
                      injection huw with huw
                      rw [← huw, e2] at e3
                      exact absurd o4 e3
                    · omega) v5 v6 v7 v8
                  rw [eq_false e3] at hc3
                  clear ih hw
                  apply hR 200
                  simp (maxSteps := 10000000) (disch := omega) only [hS, hn, sm_eqs, hf, ha, sm_b0, Int.reduceToNat, ↓reduceIte, Nat.reduceEqDiff, true_and, and_true, List.length_nil, List.length_cons, Nat.reduceAdd, Nat.reduceLeDiff, Nat.zero_le, false_implies, true_implies, not_true_eq_false, not_false_eq_true, implies_true, Nat.reduceSub, Nat.reduceMul, Nat.reduceDiv, reduceCtorEq, tn_clamp, nI_t, tn_nI, nI_add, pk_mul, rS_gS, rS_gA, rS_gL, rA_gS, rA_gA, rA_gL, rL_gS, rL_gA, rL_gL, and_self, and_false, false_and, if_true, if_false, true_or, or_true, or_false, false_or, sm_in, eqI, sI_s, Int32.toInt_zero, Int.natCast_zero, Int.natCast_one, Int.cast_ofNat_Int, Int.reduceEq, Int.reduceLT, Int.reduceLE, Int.reduceNeg, Int.reduceNe, ne_eq, n_up, g_up, e_cat, fr_A, fr_O, fr_P, fr_L, sp_X10_worth, em, ed, hbit, hcp, hok, hft, ← hwd, hr1, hr3, hc2, hc3, hxn9, lN_add]
                  clear hn hf ha hS hR
                  repeat' (first | (refine And.intro ?_ ?_) | (intro _))
                  all_goals (first | with_reducible assumption | omega | (exfalso; omega) | fail "G")
              · have huw := hu0 i j hiR (by first | (clear hf; omega) | omega) hft
                have hnx := hnx (by
                  by_cases e2 : i = i0
                  · rw [e2, o2] at huw; cases huw
                  · omega) v5 v6 v7 v8
                clear ih hw
                apply hR 100
                simp (maxSteps := 10000000) (disch := omega) only [hS, hn, sm_eqs, hf, ha, sm_b0, Int.reduceToNat, ↓reduceIte, Nat.reduceEqDiff, true_and, and_true, List.length_nil, List.length_cons, Nat.reduceAdd, Nat.reduceLeDiff, Nat.zero_le, false_implies, true_implies, not_true_eq_false, not_false_eq_true, implies_true, Nat.reduceSub, Nat.reduceMul, Nat.reduceDiv, reduceCtorEq, tn_clamp, nI_t, tn_nI, nI_add, pk_mul, rS_gS, rS_gA, rS_gL, rA_gS, rA_gA, rA_gL, rL_gS, rL_gA, rL_gL, and_self, and_false, false_and, if_true, if_false, true_or, or_true, or_false, false_or, sm_in, eqI, sI_s, Int32.toInt_zero, Int.natCast_zero, Int.natCast_one, Int.cast_ofNat_Int, Int.reduceEq, Int.reduceLT, Int.reduceLE, Int.reduceNeg, Int.reduceNe, ne_eq, n_up, g_up, e_cat, fr_A, fr_O, fr_P, fr_L, sp_X10_worth, em, ed, hbit, hcp, hok, hft, hneg]
                clear hn hf ha hS hR
                repeat' (first | (refine And.intro ?_ ?_) | (intro _))
                all_goals (first | with_reducible assumption | omega | (exfalso; omega) | fail "G")
          intro d
          induction d with
          | zero =>
            intro i hd2 hi
            exact one i hi (fun hx => by omega)
          | succ d ih2 =>
            intro i hd2 hi
            exact one i hi (fun hx => ih2 (i + 1) (by first | (clear hf; omega) | omega) (by first | (clear hf; omega) | omega))
        have h0 := srch _ 0 rfl (Nat.zero_le _) v5 v6 v7 v8
        rw [eq_false e] at hc
        clear hw ih srch
        apply hR 60
        simp (maxSteps := 10000000) (disch := omega) only [hS, hn, sm_eqs, hf, ha, sm_b0, Int.reduceToNat, ↓reduceIte, Nat.reduceEqDiff, true_and, and_true, List.length_nil, List.length_cons, Nat.reduceAdd, Nat.reduceLeDiff, Nat.zero_le, false_implies, true_implies, not_true_eq_false, not_false_eq_true, implies_true, Nat.reduceSub, Nat.reduceMul, Nat.reduceDiv, reduceCtorEq, tn_clamp, nI_t, tn_nI, nI_add, pk_mul, rS_gS, rS_gA, rS_gL, rA_gS, rA_gA, rA_gL, rL_gS, rL_gA, rL_gL, and_self, and_false, false_and, if_true, if_false, true_or, or_true, or_false, false_or, sm_in, eqI, sI_s, Int32.toInt_zero, Int.natCast_zero, Int.natCast_one, Int.cast_ofNat_Int, Int.reduceEq, Int.reduceLT, Int.reduceLE, Int.reduceNeg, Int.reduceNe, ne_eq, n_up, g_up, e_cat, fr_A, fr_O, fr_P, fr_L, sp_X10_worth, eC, hr1, hr2, hc]
        clear hn hf ha hS hR
        repeat' (first | (refine And.intro ?_ ?_) | (intro _))
        all_goals (first | with_reducible assumption | omega | (exfalso; omega) | fail "G")
  -- nothing is chosen yet
  have init : ∀ S, sOK u R C Z 0 S → ∀ d i, d = R - i → i ≤ R → ∀ ch, (∀ k, k < i → ch k = sI 0) → ∀ v4 v5 v6 v7 v8, J 202 [some (.ref 53), some (.int (nI Z)), some (.int (nI (Z - 1))), some (.int (nI i)), v4, v5, v6, v7, v8] [] (gL (gA g 77 ch) 76 S) := by
    intro S hS9 d
    induction d with
    | zero =>
      intro i hd hi ch hch v4 v5 v6 v7 v8
      obtain rfl : R = i := by omega
      have h0 := back S hS9 _ 0 rfl (Nat.zero_le _) (2 ^ R - 1) (fun _ => none) ch (wb_0 u R C) (fun k hk => hch k hk) v4 v5 v6 v7 v8
      rw [← hZ] at h0
      have hr := hS9 0 (by first | (clear hf; omega) | omega) (by first | (clear hf; omega) | omega) (Z - 1) (by first | (clear hf; omega) | omega)
      rw [Nat.zero_mul, Nat.zero_add, Nat.sub_zero] at hr
      have q := hvb C (Z - 1)
      have hdv : lN (val u R C C (Z - 1)) / lN 16679880978201 = lN V := by
        rw [hV, ← hZ]; exact lN_div (by first | (clear hf; omega) | omega) (Nat.le_of_ble_eq_true rfl)
      have hd0 : ¬ lN 16679880978201 = 0 := fun h => by
        have := congrArg Int64.toInt h
        rw [lN_t (Nat.le_of_ble_eq_true rfl)] at this
        exact absurd this (by decide)
      clear hV
      clear back
      apply hR 60
      simp (maxSteps := 10000000) (disch := omega) only [hS, hn, sm_eqs, hf, ha, sm_b0, Int.reduceToNat, ↓reduceIte, Nat.reduceEqDiff, true_and, and_true, List.length_nil, List.length_cons, Nat.reduceAdd, Nat.reduceLeDiff, Nat.zero_le, false_implies, true_implies, not_true_eq_false, not_false_eq_true, implies_true, Nat.reduceSub, Nat.reduceMul, Nat.reduceDiv, reduceCtorEq, tn_clamp, nI_t, tn_nI, nI_add, pk_mul, rS_gS, rS_gA, rS_gL, rA_gS, rA_gA, rA_gL, rL_gS, rL_gA, rL_gL, and_self, and_false, false_and, if_true, if_false, true_or, or_true, or_false, false_or, sm_in, eqI, sI_s, Int32.toInt_zero, Int.natCast_zero, Int.natCast_one, Int.cast_ofNat_Int, Int.reduceEq, Int.reduceLT, Int.reduceLE, Int.reduceNeg, Int.reduceNe, ne_eq, n_up, g_up, e_cat, fr_A, fr_O, fr_P, fr_L, sp_X10_worth, eR, hr, hdv, hd0, lN_i]
      clear hn hf ha hS hR
      repeat' (first | (refine And.intro ?_ ?_) | (intro _))
      all_goals (first | with_reducible assumption | omega | (exfalso; omega) | fail "G")
    | succ d ih =>
      intro i hd hi ch hch v4 v5 v6 v7 v8
      have ih := ih (i + 1) (by first | (clear hf; omega) | omega) (by first | (clear hf; omega) | omega) (upd ch i (sI 0)) (fun k hk => by
        by_cases e : k = i
        · rw [e, pk_us]
        · rw [pk_un e]; exact hch k (by first | (clear hf; omega) | omega)) v4 v5 v6 v7 v8
      clear back
      apply hR 60
      simp (maxSteps := 10000000) (disch := omega) only [hS, hn, sm_eqs, hf, ha, sm_b0, Int.reduceToNat, ↓reduceIte, Nat.reduceEqDiff, true_and, and_true, List.length_nil, List.length_cons, Nat.reduceAdd, Nat.reduceLeDiff, Nat.zero_le, false_implies, true_implies, not_true_eq_false, not_false_eq_true, implies_true, Nat.reduceSub, Nat.reduceMul, Nat.reduceDiv, reduceCtorEq, tn_clamp, nI_t, tn_nI, nI_add, pk_mul, rS_gS, rS_gA, rS_gL, rA_gS, rA_gA, rA_gL, rL_gS, rL_gA, rL_gL, and_self, and_false, false_and, if_true, if_false, true_or, or_true, or_false, false_or, sm_in, eqI, sI_s, Int32.toInt_zero, Int.natCast_zero, Int.natCast_one, Int.cast_ofNat_Int, Int.reduceEq, Int.reduceLT, Int.reduceLE, Int.reduceNeg, Int.reduceNe, ne_eq, n_up, g_up, e_cat, fr_A, fr_O, fr_P, fr_L, sp_X10_worth, eR]
      clear hn hf ha hS hR
      repeat' (first | (refine And.intro ?_ ?_) | (intro _))
      all_goals (first | with_reducible assumption | omega | (exfalso; omega) | fail "G")
  have all : ∀ j, j ≤ C → ∀ S, sOK u R C Z j S → ∀ v3 v4 v5 v6 v7 v8, J 41 [some (.ref 53), some (.int (nI Z)), some (.int (pj j)), v3, v4, v5, v6, v7, v8] [] (gL g 76 S) := by
    intro j
    induction j with
    | zero =>
      intro hj S hS9 v3 v4 v5 v6 v7 v8
      have h0 := init S hS9 _ 0 rfl (Nat.zero_le _) (rA g 77) (fun k hk => by omega) v4 v5 v6 v7 v8
      rw [gA_self] at h0
      have e1 : nI Z - nI 1 = nI (Z - 1) := pk_sub (by first | (clear hf; omega) | omega)
      clear init back
      rw [show pj 0 = sI 0 from rfl]
      apply hR 60
      simp (maxSteps := 10000000) (disch := omega) only [hS, hn, sm_eqs, hf, ha, sm_b0, Int.reduceToNat, ↓reduceIte, Nat.reduceEqDiff, true_and, and_true, List.length_nil, List.length_cons, Nat.reduceAdd, Nat.reduceLeDiff, Nat.zero_le, false_implies, true_implies, not_true_eq_false, not_false_eq_true, implies_true, Nat.reduceSub, Nat.reduceMul, Nat.reduceDiv, reduceCtorEq, tn_clamp, nI_t, tn_nI, nI_add, pk_mul, rS_gS, rS_gA, rS_gL, rA_gS, rA_gA, rA_gL, rL_gS, rL_gA, rL_gL, and_self, and_false, false_and, if_true, if_false, true_or, or_true, or_false, false_or, sm_in, eqI, sI_s, Int32.toInt_zero, Int.natCast_zero, Int.natCast_one, Int.cast_ofNat_Int, Int.reduceEq, Int.reduceLT, Int.reduceLE, Int.reduceNeg, Int.reduceNe, ne_eq, n_up, g_up, e_cat, fr_A, fr_O, fr_P, fr_L, sp_X10_worth, e1]
      clear hn hf ha hS hR
      repeat' (first | (refine And.intro ?_ ?_) | (intro _))
      all_goals (first | with_reducible assumption | omega | (exfalso; omega) | fail "G")
    | succ j ih =>
      intro hj S hS9 v3 v4 v5 v6 v7 v8
      clear init back
      obtain ⟨ed, ld⟩ := hgd j (by first | (clear hf; omega) | omega)
      have hok : okT c (nI (gd j)) := by unfold okT; rw [nI_t (by first | (clear hf; omega) | omega)]; omega
      have hvs : ∀ s i, i ≤ R → vst (val u R C (C - (j + 1))) (fun i => u i j) s i ≤ 5764607523034234880 := fun s i hi => by
        have h1 := vst_up (val u R C (C - (j + 1))) (fun i => u i j) s i R hi
        rw [← valj (by first | (clear hf; omega) | omega)] at h1
        exact Nat.le_trans h1 (hvb _ _)
      obtain ⟨f, hf9⟩ : ∃ f, f = val u R C (C - (j + 1)) := ⟨_, rfl⟩
      obtain ⟨uj, huj⟩ : ∃ uj, uj = fun i => u i j := ⟨_, rfl⟩
      have l82 : ∀ d i, d = R - i → i ≤ R → ∀ S, sOK u R C Z (j + 1) S → (∀ t, t < Z → S (j * Z + t) = lN (vst f uj t i)) → ∀ v4 v5 v6 v7 v8, J 82 [some (.ref 53), some (.int (nI Z)), some (.int (nI j)), some (.int (nI i)), v4, v5, v6, v7, v8] [] (gL g 76 S) := by
        intro d
        induction d with
        | zero =>
          intro i hd hi S hS9 hrow v4 v5 v6 v7 v8
          obtain rfl : i = R := by omega
          have ih := ih (by first | (clear hf; omega) | omega) S (fun k hk1 hk2 s hs9 => by
            by_cases e : k = j
            · rw [e, hrow s hs9, valj (by first | (clear hf; omega) | omega), hf9, huj]
            · exact hS9 k (by first | (clear hf; omega) | omega) hk2 s hs9) (some (.int (nI i))) v4 v5 v6 v7 v8
          have e1 := pj_inc (n := j) (by first | (clear hf; omega) | omega)
          apply hR 60
          simp (maxSteps := 10000000) (disch := omega) only [hS, hn, sm_eqs, hf, ha, sm_b0, Int.reduceToNat, ↓reduceIte, Nat.reduceEqDiff, true_and, and_true, List.length_nil, List.length_cons, Nat.reduceAdd, Nat.reduceLeDiff, Nat.zero_le, false_implies, true_implies, not_true_eq_false, not_false_eq_true, implies_true, Nat.reduceSub, Nat.reduceMul, Nat.reduceDiv, reduceCtorEq, tn_clamp, nI_t, tn_nI, nI_add, pk_mul, rS_gS, rS_gA, rS_gL, rA_gS, rA_gA, rA_gL, rL_gS, rL_gA, rL_gL, and_self, and_false, false_and, if_true, if_false, true_or, or_true, or_false, false_or, sm_in, eqI, sI_s, Int32.toInt_zero, Int.natCast_zero, Int.natCast_one, Int.cast_ofNat_Int, Int.reduceEq, Int.reduceLT, Int.reduceLE, Int.reduceNeg, Int.reduceNe, ne_eq, n_up, g_up, e_cat, fr_A, fr_O, fr_P, fr_L, sp_X10_worth, eR, e1]
          clear hn hf ha hS hR
          repeat' (first | (refine And.intro ?_ ?_) | (intro _))
          all_goals (first | with_reducible assumption | omega | (exfalso; omega) | fail "G")
        | succ d ih2 =>
          intro i hd hi S hS9 hrow v4 v5 v6 v7 v8
          have hiR : i < R := by omega
          obtain ⟨em, lm, om⟩ := hmem i hiR
          have hcp : CP c (gL g 76 S) := by simp only [cp_fr]; exact h
          have ih2 := ih2 (i + 1) (by first | (clear hf; omega) | omega) (by first | (clear hf; omega) | omega)
          clear ih
          by_cases hft : ftC c (mem i) (gd j)
          · have huw := hu1 i j hiR (by first | (clear hf; omega) | omega) hft
            obtain ⟨w, hwd⟩ : ∃ w, w = wtN (tn (stC c (mem i) (gd j))) i j := ⟨_, rfl⟩
            rw [← hwd] at huw
            have q3 := hub i j w huw
            have huw : uj i = some w := by rw [huj]; exact huw
            have hc2 := (lgc_n (a := w) (b := 0) (by first | (clear hf; omega) | omega) (by first | (clear hf; omega) | omega)).2.2
            have l101 : ∀ d s, d = Z - s → s ≤ Z → ∀ S, sOK u R C Z (j + 1) S → (∀ t, t < Z → S (j * Z + t) = lN (vst f uj t (if t < s then i + 1 else i))) → ∀ v7 v8, J 101 [some (.ref 53), some (.int (nI Z)), some (.int (nI j)), some (.int (nI i)), some (.long (lN w)), none, some (.int (nI s)), v7, v8] [] (gL g 76 S) := by
              intro d
              induction d with
              | zero =>
                intro s hd2 hsz S hS9 hrow v7 v8
                obtain rfl : s = Z := by omega
                have ih2 := ih2 S hS9 (fun t ht => by have := hrow t ht; rw [if_pos ht] at this; exact this) (some (.long (lN w))) none (some (.int (nI s))) v7 v8
                apply hR 60
                simp (maxSteps := 10000000) (disch := omega) only [hS, hn, sm_eqs, hf, ha, sm_b0, Int.reduceToNat, ↓reduceIte, Nat.reduceEqDiff, true_and, and_true, List.length_nil, List.length_cons, Nat.reduceAdd, Nat.reduceLeDiff, Nat.zero_le, false_implies, true_implies, not_true_eq_false, not_false_eq_true, implies_true, Nat.reduceSub, Nat.reduceMul, Nat.reduceDiv, reduceCtorEq, tn_clamp, nI_t, tn_nI, nI_add, pk_mul, rS_gS, rS_gA, rS_gL, rA_gS, rA_gA, rA_gL, rL_gS, rL_gA, rL_gL, and_self, and_false, false_and, if_true, if_false, true_or, or_true, or_false, false_or, sm_in, eqI, sI_s, Int32.toInt_zero, Int.natCast_zero, Int.natCast_one, Int.cast_ofNat_Int, Int.reduceEq, Int.reduceLT, Int.reduceLE, Int.reduceNeg, Int.reduceNe, ne_eq, n_up, g_up, e_cat, fr_A, fr_O, fr_P, fr_L, sp_X10_worth]
                clear hn hf ha hS hR
                repeat' (first | (refine And.intro ?_ ?_) | (intro _))
                all_goals (first | with_reducible assumption | omega | (exfalso; omega) | fail "G")
              | succ d ih3 =>
                intro s hd2 hsz S hS9 hrow v7 v8
                have ih3 := ih3 (s + 1) (by first | (clear hf; omega) | omega) (by first | (clear hf; omega) | omega)
                have hsZ : s < Z := by omega
                have hbit := hbt s i hsZ hiR
                have hcur := hrow s hsZ
                rw [if_neg (by first | (clear hf; omega) | omega)] at hcur
                have same : vst f uj s (i + 1) = vst f uj s i → ∀ t, t < Z → S (j * Z + t) = lN (vst f uj t (if t < s + 1 then i + 1 else i)) := fun e t ht => by
                  by_cases e2 : t = s
                  · rw [e2, if_pos (by first | (clear hf; omega) | omega), e]; exact hcur
                  · have := hrow t ht
                    by_cases e3 : t < s
                    · rw [if_pos e3] at this; rw [if_pos (by first | (clear hf; omega) | omega)]; exact this
                    · rw [if_neg e3] at this; rw [if_neg (by first | (clear hf; omega) | omega)]; exact this
                clear ih2
                cases hb : s.testBit i with
                | false =>
                  have ih3 := ih3 S hS9 (same (vst_no (Or.inr (Or.inl hb)))) v7 v8
                  rw [hb] at hbit
                  clear same hrow
                  apply hR 60
                  simp (maxSteps := 10000000) (disch := omega) only [hS, hn, sm_eqs, hf, ha, sm_b0, Int.reduceToNat, ↓reduceIte, Nat.reduceEqDiff, true_and, and_true, List.length_nil, List.length_cons, Nat.reduceAdd, Nat.reduceLeDiff, Nat.zero_le, false_implies, true_implies, not_true_eq_false, not_false_eq_true, implies_true, Nat.reduceSub, Nat.reduceMul, Nat.reduceDiv, reduceCtorEq, tn_clamp, nI_t, tn_nI, nI_add, pk_mul, rS_gS, rS_gA, rS_gL, rA_gS, rA_gA, rA_gL, rL_gS, rL_gA, rL_gL, and_self, and_false, false_and, if_true, if_false, true_or, or_true, or_false, false_or, sm_in, eqI, sI_s, Int32.toInt_zero, Int.natCast_zero, Int.natCast_one, Int.cast_ofNat_Int, Int.reduceEq, Int.reduceLT, Int.reduceLE, Int.reduceNeg, Int.reduceNe, ne_eq, n_up, g_up, e_cat, fr_A, fr_O, fr_P, fr_L, sp_X10_worth, hbit, hc2]
                  clear hn hf ha hS hR
                  repeat' (first | (refine And.intro ?_ ?_) | (intro _))
                  all_goals (first | with_reducible assumption | omega | (exfalso; omega) | fail "G")
                | true =>
                  rw [hb] at hbit
                  have hbit : ((nI s >>> (nI i &&& 31) &&& nI 1).toInt = 0) = False := by rw [hbit]; exact eq_false (by decide)
                  have hx9 := hxb s i hsZ hiR
                  have q4 := hvb (C - (j + 1)) (s ^^^ 2 ^ i)
                  have hr3 := hS9 (j + 1) (by first | (clear hf; omega) | omega) (by first | (clear hf; omega) | omega) (s ^^^ 2 ^ i) hx9
                  rw [← hf9] at q4 hr3
                  have hb3 := hjz (j + 1) (by first | (clear hf; omega) | omega) (s ^^^ 2 ^ i) hx9
                  have hb2 := hjz j (by first | (clear hf; omega) | omega) s hsZ
                  have q5 := hvs s i (by first | (clear hf; omega) | omega)
                  rw [← hf9, ← huj] at q5
                  have hc3 := (lgc_n (a := w + f (s ^^^ 2 ^ i)) (b := vst f uj s i) (by first | (clear hf; omega) | omega) (by first | (clear hf; omega) | omega)).2.1
                  have hxn9 := hxn s i hiR
                  by_cases e3 : w + f (s ^^^ 2 ^ i) ≤ vst f uj s i
                  · have hc4 : (0 < (lg_cmp (lN (w + f (s ^^^ 2 ^ i))) (lN (vst f uj s i))).toInt) = False := eq_false (by have := of_eq_true (hc3.trans (eq_true e3)); omega)
                    clear hc3
                    have ih3 := ih3 S hS9 (same (vst_no (Or.inr (Or.inr ⟨w, huw, e3⟩)))) (some (.long (lN (w + f (s ^^^ 2 ^ i))))) none
                    clear same hrow
                    apply hR 100
                    simp (maxSteps := 10000000) (disch := omega) only [hS, hn, sm_eqs, hf, ha, sm_b0, Int.reduceToNat, ↓reduceIte, Nat.reduceEqDiff, true_and, and_true, List.length_nil, List.length_cons, Nat.reduceAdd, Nat.reduceLeDiff, Nat.zero_le, false_implies, true_implies, not_true_eq_false, not_false_eq_true, implies_true, Nat.reduceSub, Nat.reduceMul, Nat.reduceDiv, reduceCtorEq, tn_clamp, nI_t, tn_nI, nI_add, pk_mul, rS_gS, rS_gA, rS_gL, rA_gS, rA_gA, rA_gL, rL_gS, rL_gA, rL_gL, and_self, and_false, false_and, if_true, if_false, true_or, or_true, or_false, false_or, sm_in, eqI, sI_s, Int32.toInt_zero, Int.natCast_zero, Int.natCast_one, Int.cast_ofNat_Int, Int.reduceEq, Int.reduceLT, Int.reduceLE, Int.reduceNeg, Int.reduceNe, ne_eq, n_up, g_up, e_cat, fr_A, fr_O, fr_P, fr_L, sp_X10_worth, hbit, hc2, hc4, hxn9, hr3, hcur, lN_add]
                    clear hn hf ha hS hR
                    repeat' (first | (refine And.intro ?_ ?_) | (intro _))
                    all_goals (first | with_reducible assumption | omega | (exfalso; omega) | fail "G")
                  · have hc4 : (0 < (lg_cmp (lN (w + f (s ^^^ 2 ^ i))) (lN (vst f uj s i))).toInt) = True := eq_true (by have := of_eq_false (hc3.trans (eq_false e3)); omega)
                    clear hc3
                    have ih3 := ih3 (vp_updL S (j * Z + s) (lN (w + f (s ^^^ 2 ^ i)))) (fun k hk1 hk2 t ht => by
                      rw [updL_n (row_ne ht hsZ (by first | (clear hf; omega) | omega))]
                      exact hS9 k hk1 hk2 t ht) (fun t ht => by
                      by_cases e2 : t = s
                      · rw [e2, updL_s, if_pos (by first | (clear hf; omega) | omega), vst_yes huw hb e3]
                      · rw [updL_n (row_ne ht hsZ (by first | (clear hf; omega) | omega))]
                        have := hrow t ht
                        by_cases e4 : t < s
                        · rw [if_pos e4] at this; rw [if_pos (by first | (clear hf; omega) | omega)]; exact this
                        · rw [if_neg e4] at this; rw [if_neg (by first | (clear hf; omega) | omega)]; exact this) (some (.long (lN (w + f (s ^^^ 2 ^ i))))) none
                    clear same hrow
                    apply hR 100
                    simp (maxSteps := 10000000) (disch := omega) only [hS, hn, sm_eqs, hf, ha, sm_b0, Int.reduceToNat, ↓reduceIte, Nat.reduceEqDiff, true_and, and_true, List.length_nil, List.length_cons, Nat.reduceAdd, Nat.reduceLeDiff, Nat.zero_le, false_implies, true_implies, not_true_eq_false, not_false_eq_true, implies_true, Nat.reduceSub, Nat.reduceMul, Nat.reduceDiv, reduceCtorEq, tn_clamp, nI_t, tn_nI, nI_add, pk_mul, rS_gS, rS_gA, rS_gL, rA_gS, rA_gA, rA_gL, rL_gS, rL_gA, rL_gL, and_self, and_false, false_and, if_true, if_false, true_or, or_true, or_false, false_or, sm_in, eqI, sI_s, Int32.toInt_zero, Int.natCast_zero, Int.natCast_one, Int.cast_ofNat_Int, Int.reduceEq, Int.reduceLT, Int.reduceLE, Int.reduceNeg, Int.reduceNe, ne_eq, n_up, g_up, e_cat, fr_A, fr_O, fr_P, fr_L, sp_X10_worth, hbit, hc2, hc4, hxn9, hr3, hcur, lN_add]
                    clear hn hf ha hS hR
                    repeat' (first | (refine And.intro ?_ ?_) | (intro _))
                    all_goals (first | with_reducible assumption | omega | (exfalso; omega) | fail "G")
            have h0 := l101 _ 0 rfl (Nat.zero_le _) S hS9 (fun t ht => by rw [if_neg (by first | (clear hf; omega) | omega)]; exact hrow t ht) v7 v8
            clear l101 ih2
            apply hR 60
            simp (maxSteps := 10000000) (disch := omega) only [hS, hn, sm_eqs, hf, ha, sm_b0, Int.reduceToNat, ↓reduceIte, Nat.reduceEqDiff, true_and, and_true, List.length_nil, List.length_cons, Nat.reduceAdd, Nat.reduceLeDiff, Nat.zero_le, false_implies, true_implies, not_true_eq_false, not_false_eq_true, implies_true, Nat.reduceSub, Nat.reduceMul, Nat.reduceDiv, reduceCtorEq, tn_clamp, nI_t, tn_nI, nI_add, pk_mul, rS_gS, rS_gA, rS_gL, rA_gS, rA_gA, rA_gL, rL_gS, rL_gA, rL_gL, and_self, and_false, false_and, if_true, if_false, true_or, or_true, or_false, false_or, sm_in, eqI, sI_s, Int32.toInt_zero, Int.natCast_zero, Int.natCast_one, Int.cast_ofNat_Int, Int.reduceEq, Int.reduceLT, Int.reduceLE, Int.reduceNeg, Int.reduceNe, ne_eq, n_up, g_up, e_cat, fr_A, fr_O, fr_P, fr_L, sp_X10_worth, eR, em, ed, hcp, hok, hft, ← hwd]
            clear hn hf ha hS hR
            repeat' (first | (refine And.intro ?_ ?_) | (intro _))
            all_goals (first | with_reducible assumption | omega | (exfalso; omega) | fail "G")
          · have huw := hu0 i j hiR (by first | (clear hf; omega) | omega) hft
            have huw : uj i = none := by rw [huj]; exact huw
            have h1 : ∀ v7 v8, J 101 [some (.ref 53), some (.int (nI Z)), some (.int (nI j)), some (.int (nI i)), some (.long (Int64.ofInt (-1))), none, some (.int (nI 0)), v7, v8] [] (gL g 76 S) := fun v7 v8 => by
              have ih2 := ih2 S hS9 (fun t ht => by rw [vst_no (Or.inl huw)]; exact hrow t ht) (some (.long (Int64.ofInt (-1)))) none (some (.int (nI 0))) v7 v8
              apply hR 60
              simp (maxSteps := 10000000) (disch := omega) only [hS, hn, sm_eqs, hf, ha, sm_b0, Int.reduceToNat, ↓reduceIte, Nat.reduceEqDiff, true_and, and_true, List.length_nil, List.length_cons, Nat.reduceAdd, Nat.reduceLeDiff, Nat.zero_le, false_implies, true_implies, not_true_eq_false, not_false_eq_true, implies_true, Nat.reduceSub, Nat.reduceMul, Nat.reduceDiv, reduceCtorEq, tn_clamp, nI_t, tn_nI, nI_add, pk_mul, rS_gS, rS_gA, rS_gL, rA_gS, rA_gA, rA_gL, rL_gS, rL_gA, rL_gL, and_self, and_false, false_and, if_true, if_false, true_or, or_true, or_false, false_or, sm_in, eqI, sI_s, Int32.toInt_zero, Int.natCast_zero, Int.natCast_one, Int.cast_ofNat_Int, Int.reduceEq, Int.reduceLT, Int.reduceLE, Int.reduceNeg, Int.reduceNe, ne_eq, n_up, g_up, e_cat, fr_A, fr_O, fr_P, fr_L, sp_X10_worth, hneg]
              clear hn hf ha hS hR
              repeat' (first | (refine And.intro ?_ ?_) | (intro _))
              all_goals (first | with_reducible assumption | omega | (exfalso; omega) | fail "G")
            clear ih2
            apply hR 60
            simp (maxSteps := 10000000) (disch := omega) only [hS, hn, sm_eqs, hf, ha, sm_b0, Int.reduceToNat, ↓reduceIte, Nat.reduceEqDiff, true_and, and_true, List.length_nil, List.length_cons, Nat.reduceAdd, Nat.reduceLeDiff, Nat.zero_le, false_implies, true_implies, not_true_eq_false, not_false_eq_true, implies_true, Nat.reduceSub, Nat.reduceMul, Nat.reduceDiv, reduceCtorEq, tn_clamp, nI_t, tn_nI, nI_add, pk_mul, rS_gS, rS_gA, rS_gL, rA_gS, rA_gA, rA_gL, rL_gS, rL_gA, rL_gL, and_self, and_false, false_and, if_true, if_false, true_or, or_true, or_false, false_or, sm_in, eqI, sI_s, Int32.toInt_zero, Int.natCast_zero, Int.natCast_one, Int.cast_ofNat_Int, Int.reduceEq, Int.reduceLT, Int.reduceLE, Int.reduceNeg, Int.reduceNe, ne_eq, n_up, g_up, e_cat, fr_A, fr_O, fr_P, fr_L, sp_X10_worth, eR, em, ed, hcp, hok, hft]
            clear hn hf ha hS hR
            repeat' (first | (refine And.intro ?_ ?_) | (intro _))
            all_goals (first | with_reducible assumption | omega | (exfalso; omega) | exact h1 _ _ | fail "G")
      have l47 : ∀ d s, d = Z - s → s ≤ Z → ∀ S, sOK u R C Z (j + 1) S → (∀ t, t < s → S (j * Z + t) = lN (f t)) → ∀ v4 v5 v6 v7 v8, J 47 [some (.ref 53), some (.int (nI Z)), some (.int (nI j)), some (.int (nI s)), v4, v5, v6, v7, v8] [] (gL g 76 S) := by
        intro d
        induction d with
        | zero =>
          intro s hd hsz S hS9 hrow v4 v5 v6 v7 v8
          obtain rfl : s = Z := by omega
          have h0 := l82 _ 0 rfl (Nat.zero_le _) S hS9 hrow v4 v5 v6 v7 v8
          clear l82 ih
          apply hR 60
          simp (maxSteps := 10000000) (disch := omega) only [hS, hn, sm_eqs, hf, ha, sm_b0, Int.reduceToNat, ↓reduceIte, Nat.reduceEqDiff, true_and, and_true, List.length_nil, List.length_cons, Nat.reduceAdd, Nat.reduceLeDiff, Nat.zero_le, false_implies, true_implies, not_true_eq_false, not_false_eq_true, implies_true, Nat.reduceSub, Nat.reduceMul, Nat.reduceDiv, reduceCtorEq, tn_clamp, nI_t, tn_nI, nI_add, pk_mul, rS_gS, rS_gA, rS_gL, rA_gS, rA_gA, rA_gL, rL_gS, rL_gA, rL_gL, and_self, and_false, false_and, if_true, if_false, true_or, or_true, or_false, false_or, sm_in, eqI, sI_s, Int32.toInt_zero, Int.natCast_zero, Int.natCast_one, Int.cast_ofNat_Int, Int.reduceEq, Int.reduceLT, Int.reduceLE, Int.reduceNeg, Int.reduceNe, ne_eq, n_up, g_up, e_cat, fr_A, fr_O, fr_P, fr_L, sp_X10_worth]
          clear hn hf ha hS hR
          repeat' (first | (refine And.intro ?_ ?_) | (intro _))
          all_goals (first | with_reducible assumption | omega | (exfalso; omega) | fail "G")
        | succ d ih3 =>
          intro s hd hsz S hS9 hrow v4 v5 v6 v7 v8
          have hsZ : s < Z := by omega
          have hb3 := hjz (j + 1) (by first | (clear hf; omega) | omega) s hsZ
          have hb2 := hjz j (by first | (clear hf; omega) | omega) s hsZ
          have hr3 := hS9 (j + 1) (by first | (clear hf; omega) | omega) (by first | (clear hf; omega) | omega) s hsZ
          rw [← hf9] at hr3
          have ih3 := ih3 (s + 1) (by first | (clear hf; omega) | omega) (by first | (clear hf; omega) | omega) (vp_updL S (j * Z + s) (lN (f s))) (fun k hk1 hk2 t ht => by
            rw [updL_n (row_ne ht hsZ (by first | (clear hf; omega) | omega))]
            exact hS9 k hk1 hk2 t ht) (fun t ht => by
            by_cases e2 : t = s
            · rw [e2, updL_s]
            · rw [updL_n (row_ne (by first | (clear hf; omega) | omega) hsZ (by first | (clear hf; omega) | omega))]
              exact hrow t (by first | (clear hf; omega) | omega)) v4 v5 v6 v7 v8
          clear l82 ih
          apply hR 60
          simp (maxSteps := 10000000) (disch := omega) only [hS, hn, sm_eqs, hf, ha, sm_b0, Int.reduceToNat, ↓reduceIte, Nat.reduceEqDiff, true_and, and_true, List.length_nil, List.length_cons, Nat.reduceAdd, Nat.reduceLeDiff, Nat.zero_le, false_implies, true_implies, not_true_eq_false, not_false_eq_true, implies_true, Nat.reduceSub, Nat.reduceMul, Nat.reduceDiv, reduceCtorEq, tn_clamp, nI_t, tn_nI, nI_add, pk_mul, rS_gS, rS_gA, rS_gL, rA_gS, rA_gA, rA_gL, rL_gS, rL_gA, rL_gL, and_self, and_false, false_and, if_true, if_false, true_or, or_true, or_false, false_or, sm_in, eqI, sI_s, Int32.toInt_zero, Int.natCast_zero, Int.natCast_one, Int.cast_ofNat_Int, Int.reduceEq, Int.reduceLT, Int.reduceLE, Int.reduceNeg, Int.reduceNe, ne_eq, n_up, g_up, e_cat, fr_A, fr_O, fr_P, fr_L, sp_X10_worth, hr3]
          clear hn hf ha hS hR
          repeat' (first | (refine And.intro ?_ ?_) | (intro _))
          all_goals (first | with_reducible assumption | omega | (exfalso; omega) | fail "G")
      have h0 := l47 _ 0 rfl (Nat.zero_le _) S hS9 (fun t ht => by omega) v4 v5 v6 v7 v8
      rw [show pj (j + 1) = nI j from rfl]
      clear l47 l82 ih
      apply hR 60
      simp (maxSteps := 10000000) (disch := omega) only [hS, hn, sm_eqs, hf, ha, sm_b0, Int.reduceToNat, ↓reduceIte, Nat.reduceEqDiff, true_and, and_true, List.length_nil, List.length_cons, Nat.reduceAdd, Nat.reduceLeDiff, Nat.zero_le, false_implies, true_implies, not_true_eq_false, not_false_eq_true, implies_true, Nat.reduceSub, Nat.reduceMul, Nat.reduceDiv, reduceCtorEq, tn_clamp, nI_t, tn_nI, nI_add, pk_mul, rS_gS, rS_gA, rS_gL, rA_gS, rA_gA, rA_gL, rL_gS, rL_gA, rL_gL, and_self, and_false, false_and, if_true, if_false, true_or, or_true, or_false, false_or, sm_in, eqI, sI_s, Int32.toInt_zero, Int.natCast_zero, Int.natCast_one, Int.cast_ofNat_Int, Int.reduceEq, Int.reduceLT, Int.reduceLE, Int.reduceNeg, Int.reduceNe, ne_eq, n_up, g_up, e_cat, fr_A, fr_O, fr_P, fr_L, sp_X10_worth]
      clear hn hf ha hS hR
      repeat' (first | (refine And.intro ?_ ?_) | (intro _))
      all_goals (first | with_reducible assumption | omega | (exfalso; omega) | fail "G")
  have l9 : ∀ d s, d = Z - s → s ≤ Z → ∀ S, (∀ t, t < s → S (C * Z + t) = lN 0) → ∀ v3 v4 v5 v6 v7 v8, J 9 [some (.ref 53), some (.int (nI Z)), some (.int (nI s)), v3, v4, v5, v6, v7, v8] [] (gL g 76 S) := by
    intro d
    induction d with
    | zero =>
      intro s hd hsz S hrow v3 v4 v5 v6 v7 v8
      obtain rfl : s = Z := by omega
      have h0 := all C (Nat.le_refl _) S (fun k hk1 hk2 t ht => by
        obtain rfl : k = C := by omega
        rw [hrow t ht, Nat.sub_self]; rfl) v3 v4 v5 v6 v7 v8
      have e1 := pj_sub (n := C) (by first | (clear hf; omega) | omega)
      clear all init back
      apply hR 60
      simp (maxSteps := 10000000) (disch := omega) only [hS, hn, sm_eqs, hf, ha, sm_b0, Int.reduceToNat, ↓reduceIte, Nat.reduceEqDiff, true_and, and_true, List.length_nil, List.length_cons, Nat.reduceAdd, Nat.reduceLeDiff, Nat.zero_le, false_implies, true_implies, not_true_eq_false, not_false_eq_true, implies_true, Nat.reduceSub, Nat.reduceMul, Nat.reduceDiv, reduceCtorEq, tn_clamp, nI_t, tn_nI, nI_add, pk_mul, rS_gS, rS_gA, rS_gL, rA_gS, rA_gA, rA_gL, rL_gS, rL_gA, rL_gL, and_self, and_false, false_and, if_true, if_false, true_or, or_true, or_false, false_or, sm_in, eqI, sI_s, Int32.toInt_zero, Int.natCast_zero, Int.natCast_one, Int.cast_ofNat_Int, Int.reduceEq, Int.reduceLT, Int.reduceLE, Int.reduceNeg, Int.reduceNe, ne_eq, n_up, g_up, e_cat, fr_A, fr_O, fr_P, fr_L, sp_X10_worth, eC, e1]
      clear hn hf ha hS hR
      repeat' (first | (refine And.intro ?_ ?_) | (intro _))
      all_goals (first | with_reducible assumption | omega | (exfalso; omega) | fail "G")
    | succ d ih3 =>
      intro s hd hsz S hrow v3 v4 v5 v6 v7 v8
      have hsZ : s < Z := by omega
      have hb2 := hjz C (by first | (clear hf; omega) | omega) s hsZ
      have ih3 := ih3 (s + 1) (by first | (clear hf; omega) | omega) (by first | (clear hf; omega) | omega) (vp_updL S (C * Z + s) (lN 0)) (fun t ht => by
        by_cases e2 : t = s
        · rw [e2, updL_s]
        · rw [updL_n (by first | (clear hf; omega) | omega)]
          exact hrow t (by first | (clear hf; omega) | omega)) v3 v4 v5 v6 v7 v8
      clear all init back
      apply hR 60
      simp (maxSteps := 10000000) (disch := omega) only [hS, hn, sm_eqs, hf, ha, sm_b0, Int.reduceToNat, ↓reduceIte, Nat.reduceEqDiff, true_and, and_true, List.length_nil, List.length_cons, Nat.reduceAdd, Nat.reduceLeDiff, Nat.zero_le, false_implies, true_implies, not_true_eq_false, not_false_eq_true, implies_true, Nat.reduceSub, Nat.reduceMul, Nat.reduceDiv, reduceCtorEq, tn_clamp, nI_t, tn_nI, nI_add, pk_mul, rS_gS, rS_gA, rS_gL, rA_gS, rA_gA, rA_gL, rL_gS, rL_gA, rL_gL, and_self, and_false, false_and, if_true, if_false, true_or, or_true, or_false, false_or, sm_in, eqI, sI_s, Int32.toInt_zero, Int.natCast_zero, Int.natCast_one, Int.cast_ofNat_Int, Int.reduceEq, Int.reduceLT, Int.reduceLE, Int.reduceNeg, Int.reduceNe, ne_eq, n_up, g_up, e_cat, fr_A, fr_O, fr_P, fr_L, sp_X10_worth, eC]
      clear hn hf ha hS hR
      repeat' (first | (refine And.intro ?_ ?_) | (intro _))
      all_goals (first | with_reducible assumption | omega | (exfalso; omega) | fail "G")
  have h0 := l9 _ 0 rfl (Nat.zero_le _) (rL g 76) (fun t ht => by omega) none none none none none none
  rw [gL_self] at h0
  clear l9 all init back
  apply hR 60
  simp (maxSteps := 10000000) (disch := omega) only [hS, hn, sm_eqs, hf, ha, sm_b0, Int.reduceToNat, ↓reduceIte, Nat.reduceEqDiff, true_and, and_true, List.length_nil, List.length_cons, Nat.reduceAdd, Nat.reduceLeDiff, Nat.zero_le, false_implies, true_implies, not_true_eq_false, not_false_eq_true, implies_true, Nat.reduceSub, Nat.reduceMul, Nat.reduceDiv, reduceCtorEq, tn_clamp, nI_t, tn_nI, nI_add, pk_mul, rS_gS, rS_gA, rS_gL, rA_gS, rA_gA, rA_gL, rL_gS, rL_gA, rL_gL, and_self, and_false, false_and, if_true, if_false, true_or, or_true, or_false, false_or, sm_in, eqI, sI_s, Int32.toInt_zero, Int.natCast_zero, Int.natCast_one, Int.cast_ofNat_Int, Int.reduceEq, Int.reduceLT, Int.reduceLE, Int.reduceNeg, Int.reduceNe, ne_eq, n_up, g_up, e_cat, fr_A, fr_O, fr_P, fr_L, sp_X10_worth, eR, hsh]
  clear hn hf ha hS hR
  repeat' (first | (refine And.intro ?_ ?_) | (intro _))
  all_goals (first | with_reducible assumption | omega | (exfalso; omega) | fail "G")
theorem ok_X10_match (l : Launch) (c : sm_G) : sm_spok l lay sm_mt 6 193 (sp_X10_match c) := Or.inr (Or.inr (Or.inr ⟨by decide, by decide, by
  rw [mt_193]
  exact sm_method (T := TX10_) v_cok v_lok v_ka v_tok_X10 mok_X10_match rfl (by unfold sm_rk; simp) (wf_X10_match c) (List.forall_mem_cons.mpr ⟨sm_spok_up (Nat.le_of_ble_eq_true rfl : 5 ≤ 5) (ok_X10_worth l c), fun _ h => absurd h List.not_mem_nil⟩) (b_X10_match c)⟩))
