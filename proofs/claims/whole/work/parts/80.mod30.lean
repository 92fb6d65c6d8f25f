def sp_X10_goesOut (n : Nat) : sm_SP := fun as g K => match as with
  | [.ref p, .int t, .int w, .int y] => p = 53 ∧ ∃ (c : sm_G) (f : Nat), f ≤ n ∧ cpW c g ∧ okT c t ∧ whyC c (tn t) = -1 ∧ nT c - nO c ≤ f ∧ y.toInt ≠ -1 ∧ (∀ h, mS g h → cpW (goT f c (tn t) w y) h → K none h)
  | _ => False
theorem wf_X10_goesOut (n : Nat) : sm_wf lay (yX10_goesOut, cX10_goesOut, 5, none) 4 false (sp_X10_goesOut n) := by
  intro as g K h
  simp only [sp_X10_goesOut] at h
  split at h
  · exact ⟨Nat.le_of_ble_eq_true rfl, by simp, rfl, fun _ => by obtain rfl := h.1; exact ⟨53, _, 10, [1, 1, 56, 57, 58, 59, 60, 61, 1, 1, 62, 63, 64, 65, 66, 67, 68, 69, 70, 71, 72, 73, 1, 74, 75, 76, 77, 1, 1, 78, 79, 1, 80, 1, 81, 1, 82, 83, 84, 85, 86, 1], TX10, 42, rfl, rfl, rfl⟩⟩
  · exact h.elim
set_option maxHeartbeats 4000000 in
set_option maxRecDepth 100000 in
theorem b_X10_goesOut (n : Nat) : sm_body lay NX10_goesOut 5 4 (sm_cl [(208, sp_X10_stands), (209, sp_X10_standing), (212, sp_X10_goesOut (n - 1))]) (sp_X10_goesOut n) := by
  intro K J S hW as g hs
  have hn := n_X10_goesOut
  have hf := fd_all
  have ha := ar_all
  generalize NX10_goesOut = N at hn hW
  generalize lay = L at hf ha hW
  obtain ⟨hS, hR⟩ := hW
  simp only [sp_X10_goesOut] at hs
  split at hs
  case h_2 => exact hs.elim
  simp only [e_args, sm_pad, List.length_cons, List.length_nil, Nat.reduceAdd, Nat.reduceSub, List.replicate_succ, List.replicate_zero, List.cons_append, List.nil_append]
  rename_i p t w y
  obtain ⟨rfl, c, f, hfn, h, ht, hy, hf9, hy2, hs⟩ := hs
  obtain ⟨t, ht2, rfl⟩ := ok_nI ht
  have hz := h.1.1.2
  have hzC := h.1.2.2.1.2
  rw [tn_nI (by omega)] at hy hs
  have hlt := nO_lt h.1 ht2 hy
  obtain ⟨f, rfl⟩ : ∃ f', f = f' + 1 := ⟨f - 1, by omega⟩
  have eC := h.2.2.2.2.2.1
  have eD := h.2.2.2.2.1.2.1
  have eO := h.2.2.2.2.1.2.2.2.2.2.2.2.2.2.2.2.1
  have p0 := og_gP (w := w) h.1 ht2 hy hy2
  obtain ⟨n3, n5, n4⟩ := og_n c t w y h.1.2.1
  obtain ⟨st, hst⟩ : ∃ st, st = fun (g : sm_G) (o : Nat) => if (rA g 19 o).toInt = (t : Int) then (if 0 < (rA g 30 o).toInt then mvS g o else goT f g o w y) else g := ⟨_, rfl⟩
  have hgo : goT (f + 1) c t w y = itr st (outG c t w y) (nT c) := by rw [hst]; simp only [goT]
  rw [hgo] at hs
  have stT : ∀ G o, (rA G 19 o).toInt = (t : Int) → st G o = if 0 < (rA G 30 o).toInt then mvS G o else goT f G o w y := fun G o e => by rw [hst]; exact if_pos e
  have stF : ∀ G o, ¬ (rA G 19 o).toInt = (t : Int) → st G o = G := fun G o e => by rw [hst]; exact if_neg e
  have l2 : ∀ m o, m = nT c - o → o ≤ nT c → ∀ s, mS g s → cpW (itr st (outG c t w y) o) s → gP (outG c t w y) (itr st (outG c t w y) o) y → J 107 [some (.ref 53), some (.int (nI t)), some (.int w), some (.int y), some (.int (nI o))] [] s := by
    intro m
    induction m with
    | zero =>
      intro o hm ho s hms hcp hgp
      obtain rfl : o = nT c := by omega
      have hs := hs s hms hcp
      have eT := hcp.2.2.2.2.1.1
      rw [(gP_n hgp).1, n3] at eT
      apply hR 60
      simp (maxSteps := 10000000) (disch := omega) only [hS, hn, sm_eqs, hf, ha, sm_b0, Int.reduceToNat, ↓reduceIte, Nat.reduceEqDiff, true_and, and_true, List.length_nil, List.length_cons, Nat.reduceAdd, Nat.reduceLeDiff, Nat.zero_le, false_implies, true_implies, not_true_eq_false, not_false_eq_true, implies_true, Nat.reduceSub, Nat.reduceMul, Nat.reduceDiv, reduceCtorEq, tn_clamp, nI_t, tn_nI, nI_add, pk_mul, rS_gS, rS_gA, rS_gL, rA_gS, rA_gA, rA_gL, rL_gS, rL_gA, rL_gL, and_self, and_false, false_and, if_true, if_false, true_or, or_true, or_false, false_or, sm_in, eqI, sI_s, Int32.toInt_zero, Int.natCast_zero, Int.natCast_one, Int.cast_ofNat_Int, Int.reduceEq, Int.reduceLT, Int.reduceLE, Int.reduceNeg, Int.reduceNe, ne_eq, n_up, g_up, e_cat, fr_A, fr_O, fr_P, fr_L, sp_X10_stands, sp_X10_standing, sp_X10_goesOut, eT]
      repeat' (first | (refine And.intro ?_ ?_) | (intro _))
      all_goals (first | with_reducible assumption | omega | (exfalso; omega))
    | succ m ih =>
      intro o hm ho s hms hcp hgp
      have ih := ih (o + 1) (by omega) (by omega)
      simp only [itr] at ih
      have m1 := (gP_n hgp).1
      have hle := hgp.2.2.2.2.1
      have aG := hgp.2.2.1
      by_cases hkd : (rA c 16 t).toInt = 1
      · generalize hG : itr st (outG c t w y) o = G at *
        have eT := hcp.2.2.2.2.1.1
        rw [m1, n3] at eT
        have e60 : (rA s 60 t).toInt = 1 := by
          rw [hcp.2.2.2.2.1.2.2.1 t (by omega), aG 16 (by unfold chg; omega), p0.2.2.1 16 (by unfold chg; omega)]; exact hkd
        have e63 := hcp.2.2.2.2.1.2.2.2.2.2.1 o (by omega)
        have e64 := hcp.2.2.2.2.1.2.2.2.2.2.2.1 o (by omega)
        clear hs
        by_cases hb : (rA G 19 o).toInt = (t : Int)
        · have hwn : whyC G o = -1 := by
            refine Classical.byContradiction (fun hne => ?_)
            have := hgp.1.2.2.2.2.1 o (by omega) hne
            unfold bgC at this; omega
          have hwh : whC G o = 1 := ((whC_c G o).2.2.2).mpr ⟨hwn, by unfold bgC; omega⟩
          rw [hwh] at e63
          obtain ⟨zM1, zM2⟩ := cpW_zM hcp
          have hsd := cpW_stand hcp (t := o) (by omega)
          rw [zM2] at hsd
          rw [stT G o hb] at ih
          by_cases h30 : 0 < (rA G 30 o).toInt
          · rw [if_pos h30] at ih
            have ih := ih _ (mS_tr hms (mS_A (mS_A (mS_rf s) (by omega)) (by omega))) (cpW_mv hcp hwn) (gP_tr hy2 hgp (mv_gP hgp.1))
            apply hR 100
            simp (maxSteps := 10000000) (disch := omega) only [hS, hn, sm_eqs, hf, ha, sm_b0, Int.reduceToNat, ↓reduceIte, Nat.reduceEqDiff, true_and, and_true, List.length_nil, List.length_cons, Nat.reduceAdd, Nat.reduceLeDiff, Nat.zero_le, false_implies, true_implies, not_true_eq_false, not_false_eq_true, implies_true, Nat.reduceSub, Nat.reduceMul, Nat.reduceDiv, reduceCtorEq, tn_clamp, nI_t, tn_nI, nI_add, pk_mul, rS_gS, rS_gA, rS_gL, rA_gS, rA_gA, rA_gL, rL_gS, rL_gA, rL_gL, and_self, and_false, false_and, if_true, if_false, true_or, or_true, or_false, false_or, sm_in, eqI, sI_s, Int32.toInt_zero, Int.natCast_zero, Int.natCast_one, Int.cast_ofNat_Int, Int.reduceEq, Int.reduceLT, Int.reduceLE, Int.reduceNeg, Int.reduceNe, ne_eq, n_up, g_up, e_cat, fr_A, fr_O, fr_P, fr_L, sp_X10_stands, sp_X10_standing, sp_X10_goesOut, eT, e60, e63, e64, hb, zM1, zM2, hsd, h30]
            clear hn hf ha hS hR
            repeat' (first | (refine And.intro ?_ ?_) | (intro _))
            all_goals (first | with_reducible assumption | omega | (exfalso; omega))
          · rw [if_neg h30] at ih
            obtain ⟨r1, r2, r3⟩ := gT_ok f G o w y hy2 hgp.1 (by omega) hwn (by omega)
            have ih := fun h (a : mS s h) (b : cpW (goT f G o w y) h) => ih h (mS_tr hms a) b (gP_tr hy2 hgp r1)
            apply hR 100
            simp (maxSteps := 10000000) (disch := omega) only [hS, hn, sm_eqs, hf, ha, sm_b0, Int.reduceToNat, ↓reduceIte, Nat.reduceEqDiff, true_and, and_true, List.length_nil, List.length_cons, Nat.reduceAdd, Nat.reduceLeDiff, Nat.zero_le, false_implies, true_implies, not_true_eq_false, not_false_eq_true, implies_true, Nat.reduceSub, Nat.reduceMul, Nat.reduceDiv, reduceCtorEq, tn_clamp, nI_t, tn_nI, nI_add, pk_mul, rS_gS, rS_gA, rS_gL, rA_gS, rA_gA, rA_gL, rL_gS, rL_gA, rL_gL, and_self, and_false, false_and, if_true, if_false, true_or, or_true, or_false, false_or, sm_in, eqI, sI_s, Int32.toInt_zero, Int.natCast_zero, Int.natCast_one, Int.cast_ofNat_Int, Int.reduceEq, Int.reduceLT, Int.reduceLE, Int.reduceNeg, Int.reduceNe, ne_eq, n_up, g_up, e_cat, fr_A, fr_O, fr_P, fr_L, sp_X10_stands, sp_X10_standing, sp_X10_goesOut, eT, e60, e63, e64, hb, zM1, zM2, hsd, h30]
            clear hn hf ha hS hR
            have hko : okT G (nI o) := by unfold okT; rw [nI_t (by omega), m1, n3]; omega
            exact ⟨fun _ => ⟨by omega, by omega, by omega, G, f, by omega, hcp, hko, hwn, by omega, hy2, fun h a b => ih h a b⟩, fun a => (a (by omega)).elim⟩
        · rw [stF G o hb] at ih
          have ih := ih s hms hcp hgp
          have hb64 : ¬ (rA s 64 o).toInt = (t : Int) := by rw [e64]; exact hb
          apply hR 100
          simp (maxSteps := 10000000) (disch := omega) only [hS, hn, sm_eqs, hf, ha, sm_b0, Int.reduceToNat, ↓reduceIte, Nat.reduceEqDiff, true_and, and_true, List.length_nil, List.length_cons, Nat.reduceAdd, Nat.reduceLeDiff, Nat.zero_le, false_implies, true_implies, not_true_eq_false, not_false_eq_true, implies_true, Nat.reduceSub, Nat.reduceMul, Nat.reduceDiv, reduceCtorEq, tn_clamp, nI_t, tn_nI, nI_add, pk_mul, rS_gS, rS_gA, rS_gL, rA_gS, rA_gA, rA_gL, rL_gS, rL_gA, rL_gL, and_self, and_false, false_and, if_true, if_false, true_or, or_true, or_false, false_or, sm_in, eqI, sI_s, Int32.toInt_zero, Int.natCast_zero, Int.natCast_one, Int.cast_ofNat_Int, Int.reduceEq, Int.reduceLT, Int.reduceLE, Int.reduceNeg, Int.reduceNe, ne_eq, n_up, g_up, e_cat, fr_A, fr_O, fr_P, fr_L, sp_X10_stands, sp_X10_standing, sp_X10_goesOut, eT, e60, hb64]
          clear hn hf ha hS hR
          repeat' (first | (refine And.intro ?_ ?_) | (intro _))
          all_goals (first | with_reducible assumption | omega | (exfalso; omega))
      · have hid : ∀ n, n ≤ nT c → itr st (outG c t w y) n = outG c t w y := fun n hn9 => itr_id n (fun u hu => stF _ _ (fun e => by
          have hk := (cpW_out (F := fun k => if (rA c 27 k).toInt = (t : Int) ∧ (rA c 28 k).toInt ≤ 1 then nI 5 else rA c 28 k) h ht2 hy hy2 (w := w) (fun k _ => rfl)).2.1 u (by omega) (by unfold bgC; omega)
          obtain ⟨b, b1, b2, b3⟩ := hk
          rw [b2, nI_t (by omega)] at e
          have : b = t := by omega
          rw [this, p0.2.2.1 16 (by unfold chg; omega)] at b3
          exact hkd b3))
        rw [hid _ (by omega)] at hcp
        rw [hid _ (Nat.le_refl _)] at hs
        have hs := hs s hms hcp
        have eT := hcp.2.2.2.2.1.1
        rw [n3] at eT
        have e60 : ¬ (rA s 60 t).toInt = 1 := by
          rw [hcp.2.2.2.2.1.2.2.1 t (by omega), p0.2.2.1 16 (by unfold chg; omega)]; exact hkd
        clear ih
        apply hR 60
        simp (maxSteps := 10000000) (disch := omega) only [hS, hn, sm_eqs, hf, ha, sm_b0, Int.reduceToNat, ↓reduceIte, Nat.reduceEqDiff, true_and, and_true, List.length_nil, List.length_cons, Nat.reduceAdd, Nat.reduceLeDiff, Nat.zero_le, false_implies, true_implies, not_true_eq_false, not_false_eq_true, implies_true, Nat.reduceSub, Nat.reduceMul, Nat.reduceDiv, reduceCtorEq, tn_clamp, nI_t, tn_nI, nI_add, pk_mul, rS_gS, rS_gA, rS_gL, rA_gS, rA_gA, rA_gL, rL_gS, rL_gA, rL_gL, and_self, and_false, false_and, if_true, if_false, true_or, or_true, or_false, false_or, sm_in, eqI, sI_s, Int32.toInt_zero, Int.natCast_zero, Int.natCast_one, Int.cast_ofNat_Int, Int.reduceEq, Int.reduceLT, Int.reduceLE, Int.reduceNeg, Int.reduceNe, ne_eq, n_up, g_up, e_cat, fr_A, fr_O, fr_P, fr_L, sp_X10_stands, sp_X10_standing, sp_X10_goesOut, eT, e60]
        clear hn hf ha hS hR
        repeat' (first | (refine And.intro ?_ ?_) | (intro _))
        all_goals (first | with_reducible assumption | omega | (exfalso; omega))
  have l1 : ∀ m i, m = nC c - i → i ≤ nC c → ∀ F, (∀ k, k < nC c → F k = if k < i ∧ (rA c 27 k).toInt = (t : Int) ∧ (rA c 28 k).toInt ≤ 1 then nI 5 else rA c 28 k) → J 61 [some (.ref 53), some (.int (nI t)), some (.int w), some (.int y), some (.int (nI i))] [] (outM g t w (rS c 0 911) y (nO c) F) := by
    intro m
    induction m with
    | zero =>
      intro i hm hi F hF
      obtain rfl : i = nC c := by omega
      have h0 := l2 _ 0 rfl (Nat.zero_le _) _ (outM_ms g t w (rS c 0 911) y (nO c) F) (cpW_out h ht2 hy hy2 (fun k hk => by
        rw [hF k hk]
        by_cases e : (rA c 27 k).toInt = (t : Int) ∧ (rA c 28 k).toInt ≤ 1
        · rw [if_pos e, if_pos ⟨hk, e⟩]
        · rw [if_neg e, if_neg (fun a => e a.2)])) (gP_rf p0.1)
      clear hs l2
      unfold outM at h0 ⊢
      apply hR 60
      simp (maxSteps := 10000000) (disch := omega) only [hS, hn, sm_eqs, hf, ha, sm_b0, Int.reduceToNat, ↓reduceIte, Nat.reduceEqDiff, true_and, and_true, List.length_nil, List.length_cons, Nat.reduceAdd, Nat.reduceLeDiff, Nat.zero_le, false_implies, true_implies, not_true_eq_false, not_false_eq_true, implies_true, Nat.reduceSub, Nat.reduceMul, Nat.reduceDiv, reduceCtorEq, tn_clamp, nI_t, tn_nI, nI_add, pk_mul, rS_gS, rS_gA, rS_gL, rA_gS, rA_gA, rA_gL, rL_gS, rL_gA, rL_gL, and_self, and_false, false_and, if_true, if_false, true_or, or_true, or_false, false_or, sm_in, eqI, sI_s, Int32.toInt_zero, Int.natCast_zero, Int.natCast_one, Int.cast_ofNat_Int, Int.reduceEq, Int.reduceLT, Int.reduceLE, Int.reduceNeg, Int.reduceNe, ne_eq, n_up, g_up, e_cat, fr_A, fr_O, fr_P, fr_L, sp_X10_stands, sp_X10_standing, sp_X10_goesOut, eC]
      repeat' (first | (refine And.intro ?_ ?_) | (intro _))
      all_goals (first | with_reducible assumption | omega | (exfalso; omega))
    | succ m ih =>
      intro i hm hi F hF
      have e81 := h.2.2.2.2.2.2.2.1 i (by omega)
      have h28 := (h.1.2.2.2.2.2.2.2.1 i (by omega)).1
      have hFi := hF i (by omega)
      rw [if_neg (fun a => by have := a.1; omega)] at hFi
      have ih := ih (i + 1) (by omega) (by omega)
      have e1 : ((F i).toInt = 0 ∨ (F i).toInt = 1) → (rA c 27 i).toInt = (t : Int) → J 61 [some (.ref 53), some (.int (nI t)), some (.int w), some (.int y), some (.int (nI (i + 1)))] [] (outM g t w (rS c 0 911) y (nO c) (upd F i (nI 5))) := fun a b => ih _ (fun k hk => by
        rw [hFi] at a
        by_cases e : k = i
        · rw [e, pk_us, if_pos ⟨by omega, b, by omega⟩]
        · rw [pk_un e, hF k hk]
          by_cases e2 : k < i ∧ (rA c 27 k).toInt = (t : Int) ∧ (rA c 28 k).toInt ≤ 1
          · rw [if_pos e2, if_pos ⟨by omega, e2.2⟩]
          · rw [if_neg e2, if_neg (fun a => e2 ⟨by omega, a.2⟩)])
      have e0 : ¬ (((F i).toInt = 0 ∨ (F i).toInt = 1) ∧ (rA c 27 i).toInt = (t : Int)) → J 61 [some (.ref 53), some (.int (nI t)), some (.int w), some (.int y), some (.int (nI (i + 1)))] [] (outM g t w (rS c 0 911) y (nO c) F) := fun a => ih _ (fun k hk => by
        rw [hFi] at a
        rw [hF k hk]
        by_cases e : k = i
        · rw [e, if_neg (fun b => by have := b.1; omega), if_neg (fun b => a ⟨by omega, b.2.1⟩)]
        · by_cases e2 : k < i ∧ (rA c 27 k).toInt = (t : Int) ∧ (rA c 28 k).toInt ≤ 1
          · rw [if_pos e2, if_pos ⟨by omega, e2.2⟩]
          · rw [if_neg e2, if_neg (fun a => e2 ⟨by omega, a.2⟩)])
      clear ih hs l2 hF hFi
      unfold outM at e1 e0 ⊢
      apply hR 60
      simp (maxSteps := 10000000) (disch := omega) only [hS, hn, sm_eqs, hf, ha, sm_b0, Int.reduceToNat, ↓reduceIte, Nat.reduceEqDiff, true_and, and_true, List.length_nil, List.length_cons, Nat.reduceAdd, Nat.reduceLeDiff, Nat.zero_le, false_implies, true_implies, not_true_eq_false, not_false_eq_true, implies_true, Nat.reduceSub, Nat.reduceMul, Nat.reduceDiv, reduceCtorEq, tn_clamp, nI_t, tn_nI, nI_add, pk_mul, rS_gS, rS_gA, rS_gL, rA_gS, rA_gA, rA_gL, rL_gS, rL_gA, rL_gL, and_self, and_false, false_and, if_true, if_false, true_or, or_true, or_false, false_or, sm_in, eqI, sI_s, Int32.toInt_zero, Int.natCast_zero, Int.natCast_one, Int.cast_ofNat_Int, Int.reduceEq, Int.reduceLT, Int.reduceLE, Int.reduceNeg, Int.reduceNe, ne_eq, n_up, g_up, e_cat, fr_A, fr_O, fr_P, fr_L, sp_X10_stands, sp_X10_standing, sp_X10_goesOut, eC, e81, zM, mC, stM]
      clear hn hf ha hS hR
      have cm : ∀ (X : sm_G) (G F2 : Nat → Int32), gA (gA (gA X 82 F) 84 G) 82 F2 = gA (gA X 82 F2) 84 G := fun X G F2 => by rw [gA_comm (gA X 82 F) G F2 (by decide), g_up.2.1]
      rw [cm]
      exact ⟨fun _ => ⟨hzC, fun a => ⟨by omega, fun b => ⟨by omega, e1 a.2.2 b⟩, fun b => e0 (fun d => b d.2)⟩, fun a => e0 (fun d => a ⟨by omega, by omega, d.1⟩)⟩, fun a => (a (by omega)).elim⟩
  have h0 := l1 _ 0 rfl (Nat.zero_le _) (rA g 82) (fun k hk => by rw [if_neg (fun a => by have := a.1; omega)]; exact h.2.2.2.2.2.2.2.2.1 k hk)
  unfold outM at h0
  rw [show rA g 82 = rA (gA (gA (gA (gA (gA g 63 (upd (rA g 63) t (nI 2))) 64 (upd (rA g 64) t (sI 0))) 66 (upd (rA g 66) t w)) 67 (upd (rA g 67) t (rS c 0 911))) 68 (upd (rA g 68) t y)) 82 from rfl, gA_self] at h0
  clear hs l2 l1
  apply hR 100
  simp (maxSteps := 10000000) (disch := omega) only [hS, hn, sm_eqs, hf, ha, sm_b0, Int.reduceToNat, ↓reduceIte, Nat.reduceEqDiff, true_and, and_true, List.length_nil, List.length_cons, Nat.reduceAdd, Nat.reduceLeDiff, Nat.zero_le, false_implies, true_implies, not_true_eq_false, not_false_eq_true, implies_true, Nat.reduceSub, Nat.reduceMul, Nat.reduceDiv, reduceCtorEq, tn_clamp, nI_t, tn_nI, nI_add, pk_mul, rS_gS, rS_gA, rS_gL, rA_gS, rA_gA, rA_gL, rL_gS, rL_gA, rL_gL, and_self, and_false, false_and, if_true, if_false, true_or, or_true, or_false, false_or, sm_in, eqI, sI_s, Int32.toInt_zero, Int.natCast_zero, Int.natCast_one, Int.cast_ofNat_Int, Int.reduceEq, Int.reduceLT, Int.reduceLE, Int.reduceNeg, Int.reduceNe, ne_eq, n_up, g_up, e_cat, fr_A, fr_O, fr_P, fr_L, sp_X10_stands, sp_X10_standing, sp_X10_goesOut, eD, eO, fr_S.2.2.2.1]
  clear hn hf ha hS hR
  refine ⟨by omega, by omega, by omega, by omega, by omega, by omega, ?_⟩
  first
  | exact h0
  | fail "G"
theorem ok_goes (l : Launch) : ∀ n, sm_spok l lay sm_mt (n + 4) 212 (sp_X10_goesOut n) := by
  intro n
  induction n with
  | zero => exact Or.inl (fun as g K h => by
      simp only [sp_X10_goesOut] at h
      split at h
      · obtain ⟨_, c, f, h1, h2, h3, h4, h5, _⟩ := h
        have hz := h2.1.1.2
        obtain ⟨t, ht, e⟩ := ok_nI h3
        rw [e, tn_nI (by omega)] at h4
        have := nO_lt h2.1 ht h4
        omega
      · exact h)
  | succ n ih => exact Or.inr (Or.inr (Or.inr ⟨by decide, by decide, by
      rw [mt_212]
      exact sm_method (T := TX10_) v_cok v_lok v_ka v_tok_X10 mok_X10_goesOut rfl (by unfold sm_rk; simp) (wf_X10_goesOut (n + 1)) (List.forall_mem_cons.mpr ⟨sm_spok_up (by omega) (ok_X10_stands l), List.forall_mem_cons.mpr ⟨sm_spok_up (by omega) (ok_X10_standing l), List.forall_mem_cons.mpr ⟨ih, fun _ h => absurd h List.not_mem_nil⟩⟩⟩) (b_X10_goesOut (n + 1))⟩))
theorem ok_X10_goesOut (l : Launch) : sm_spok l lay sm_mt 64 212 (sp_X10_goesOut 60) := ok_goes l 60

