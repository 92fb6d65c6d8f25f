/-! The reference: days. -/
theorem CP_20 {c g : sm_G} (h : CP c g) {t : Nat} (ht : t < nT c) (v : Int32) : CP (gA c 20 (upd (rA c 20) t v)) (gA g 65 (upd (rA g 65) t v)) := by
  obtain ⟨i, cq, cr, ct, cc⟩ := h
  have hn := i.2.2.1.1.2
  obtain ⟨t1, t2, t3, t4, t5, t6, t7, t8, t9, t10, t11, t12, t13⟩ := ct
  refine ⟨i, cq, cr, ⟨t1, t2, t3, t4, t5, t6, t7, fun x hx => ?_, t9, fun x hx hx2 => ?_, t11, t12, t13⟩, cc⟩
  · show upd (rA g 65) t v x = upd (rA c 20) t v x
    by_cases e : x = t
    · rw [e, pk_us, pk_us]
    · rw [pk_un e, pk_un e]; exact t8 x hx
  · show upd (rA g 65) t v x = nI 0
    have hx : nT c ≤ x := hx
    rw [pk_un (by omega)]; exact t10 x hx hx2
theorem CP_day {c g : sm_G} (h : CP c g) : CP (gS c 0 911 (rS c 0 911 + nI 1)) (gS g 53 1022 (rS g 53 1022 + nI 1)) := by
  obtain ⟨i, cq, cr, ct, cc⟩ := h
  refine ⟨i, cq, cr, ⟨ct.1, ?_, ct.2.2⟩, cc⟩
  show rS g 53 1022 + nI 1 = rS c 0 911 + nI 1
  rw [ct.2.1]
/-- a thing goes out of a state that is whole, and it is whole again -/
theorem goT_CP {c : sm_G} (hi : iv c) {t : Nat} {w y : Int32} (ht : t < nT c) (hy : whyC c t = -1) (hy2 : 1 ≤ y.toInt ∧ y.toInt ≤ 4) {h : sm_G} (hc : cpW (goT 60 c t w y) h) : CP (goT 60 c t w y) h := by
  obtain ⟨q1, q2, q3⟩ := gT_ok 60 c t w y (by omega) (iv_wG hi) ht hy (by have := hi.2.2.1.1.2; omega)
  exact cpW_CP hc (gP_iv hi hy2 q1 q2)
def sp_X10_oneDay (c : sm_G) : sm_SP := fun as g K => match as with
  | [.ref p] => p = 53 ∧ CP c g ∧ (∀ h, mS g h → CP (passG c) h → K none h)
  | _ => False
theorem wf_X10_oneDay (c : sm_G) : sm_wf lay (yX10_oneDay, cX10_oneDay, 2, none) 1 false (sp_X10_oneDay c) := by
  intro as g K h
  simp only [sp_X10_oneDay] at h
  split at h
  · exact ⟨Nat.le_of_ble_eq_true rfl, by simp, rfl, fun _ => by obtain rfl := h.1; exact ⟨53, _, 10, [1, 1, 56, 57, 58, 59, 60, 61, 1, 1, 62, 63, 64, 65, 66, 67, 68, 69, 70, 71, 72, 73, 1, 74, 75, 76, 77, 1, 1, 78, 79, 1, 80, 1, 81, 1, 82, 83, 84, 85, 86, 1], TX10, 42, rfl, rfl, rfl⟩⟩
  · exact h.elim
set_option maxHeartbeats 4000000 in
set_option maxRecDepth 100000 in
theorem b_X10_oneDay (c : sm_G) : sm_body lay NX10_oneDay 2 4 (sm_cl [(209, sp_X10_standing), (212, sp_X10_goesOut 60)]) (sp_X10_oneDay c) := by
  intro K J S hW as g hs
  have hn := n_X10_oneDay
  have hf := fd_all
  have ha := ar_all
  generalize NX10_oneDay = N at hn hW
  generalize lay = L at hf ha hW
  obtain ⟨hS, hR⟩ := hW
  simp only [sp_X10_oneDay] at hs
  split at hs
  case h_2 => exact hs.elim
  simp only [e_args, sm_pad, List.length_cons, List.length_nil, Nat.reduceAdd, Nat.reduceSub, List.replicate_succ, List.replicate_zero, List.cons_append, List.nil_append]
  rename_i p
  obtain ⟨rfl, h, hs⟩ := hs
  have hpo := pass_ok h.1
  obtain ⟨stp, hstp⟩ : ∃ stp, stp = fun (g : sm_G) (t : Nat) => if dc (whyC g t = -1 ∧ bgC g t = -1 ∧ (rA g 30 t).toInt = 0) = true then ripG g t else g := ⟨_, rfl⟩
  have hpg : passG c = itr stp (gS c 0 911 (rS c 0 911 + nI 1)) (nT c) := by rw [hstp]; rfl
  rw [← hstp] at hpo
  rw [hpg] at hs
  have stT : ∀ G t, whyC G t = -1 → bgC G t = -1 → (rA G 30 t).toInt = 0 → stp G t = ripG G t := fun G t a b d => by rw [hstp]; exact if_pos (dc_t.mpr ⟨a, b, d⟩)
  have stF : ∀ G t, ¬ (whyC G t = -1 ∧ bgC G t = -1 ∧ (rA G 30 t).toInt = 0) → stp G t = G := fun G t a => by rw [hstp]; exact if_neg (fun b => a (dc_t.mp b))
  clear hstp hpg
  have loop : ∀ m t, m = nT c - t → t ≤ nT c → ∀ s, mS g s → CP (itr stp (gS c 0 911 (rS c 0 911 + nI 1)) t) s → J 12 [some (.ref 53), some (.int (nI t))] [] s := by
    intro m
    induction m with
    | zero =>
      intro t hm ht s hms hcp
      obtain rfl : t = nT c := by omega
      have hs := hs s hms hcp
      have eT := hcp.2.2.2.1.1
      rw [(hpo _ ht).2.2] at eT
      apply hR 60
      simp (maxSteps := 10000000) (disch := omega) only [hS, hn, sm_eqs, hf, ha, sm_b0, Int.reduceToNat, ↓reduceIte, Nat.reduceEqDiff, true_and, and_true, List.length_nil, List.length_cons, Nat.reduceAdd, Nat.reduceLeDiff, Nat.zero_le, false_implies, true_implies, not_true_eq_false, not_false_eq_true, implies_true, Nat.reduceSub, Nat.reduceMul, Nat.reduceDiv, reduceCtorEq, tn_clamp, nI_t, tn_nI, nI_add, pk_mul, rS_gS, rS_gA, rS_gL, rA_gS, rA_gA, rA_gL, rL_gS, rL_gA, rL_gL, and_self, and_false, false_and, if_true, if_false, true_or, or_true, or_false, false_or, sm_in, eqI, sI_s, Int32.toInt_zero, Int.natCast_zero, Int.natCast_one, Int.cast_ofNat_Int, Int.reduceEq, Int.reduceLT, Int.reduceLE, Int.reduceNeg, Int.reduceNe, ne_eq, n_up, g_up, e_cat, fr_A, fr_O, fr_P, fr_L, sp_X10_standing, sp_X10_goesOut, eT]
      repeat' (first | (refine And.intro ?_ ?_) | (intro _))
      all_goals (first | with_reducible assumption | omega | (exfalso; omega))
    | succ m ih =>
      intro t hm ht s hms hcp
      have ih := ih (t + 1) (by omega) (by omega)
      simp only [itr] at ih
      have hn3 := (hpo t (by omega)).2.2
      clear hpo hs
      generalize hG : itr stp (gS c 0 911 (rS c 0 911 + nI 1)) t = G at *
      have hi := hcp.1
      have hn2 := CP_n hcp
      have eT := hcp.2.2.2.1.1
      rw [hn3] at eT
      have e63 := hcp.2.2.2.1.2.2.2.2.2.1 t (by omega)
      obtain ⟨w1, w2, w3, w4⟩ := whC_c G t
      by_cases hsh : whyC G t = -1 ∧ bgC G t = -1
      · have hw0 : whC G t = 0 := w3.mpr hsh
        rw [hw0] at e63
        obtain ⟨zM1, zM2⟩ := CP_zM hcp
        have hsd := CP_stand hcp (t := t) (by omega)
        rw [zM2] at hsd
        by_cases h30 : (rA G 30 t).toInt = 0
        · rw [stT G t hsh.1 hsh.2 h30] at ih
          have hng : ¬ 0 < (rA G 30 t).toInt := by omega
          have e65 := hcp.2.2.2.1.2.2.2.2.2.2.2.1 t (by omega)
          have e60 := hcp.2.2.2.1.2.2.1 t (by omega)
          have e61 := hcp.2.2.2.1.2.2.2.1 t (by omega)
          have e62 := hcp.2.2.2.1.2.2.2.2.1 t (by omega)
          have hk := hi.2.2.1.2.2.2.1 t (by omega)
          have e71 := hcp.2.2.2.1.2.2.2.2.2.2.2.2.2.2.1 (tn (rA G 16 t)) (by unfold tn; omega)
          have h18 := hi.2.2.1.2.2.1 t
          have hc20 := CP_20 hcp (t := t) (by omega) (rA G 20 t + nI 1)
          have hko : okT G (nI t) := by unfold okT; rw [nI_t (by omega)]; omega
          have r1 : ¬ (rA G 50 (tn (rA G 16 t))).toInt ≤ (rA G 20 t + nI 1).toInt → J 12 [some (.ref 53), some (.int (nI (t + 1)))] [] (gA s 65 (upd (rA s 65) t (rA G 20 t + nI 1))) := fun a => by
            have e : ripG G t = gA G 20 (upd (rA G 20) t (rA G 20 t + nI 1)) := by unfold ripG; rw [if_neg a]
            exact ih _ (mS_tr hms (mS_A (mS_rf s) (by omega))) (by rw [e]; exact hc20)
          have r2 : ∀ w y, 1 ≤ y.toInt ∧ y.toInt ≤ 4 → ripG G t = goT 60 (gA G 20 (upd (rA G 20) t (rA G 20 t + nI 1))) t w y → ∃ (c : sm_G) (f : Nat), f ≤ 60 ∧ cpW c (gA s 65 (upd (rA s 65) t (rA G 20 t + nI 1))) ∧ okT c (nI t) ∧ whyC c t = -1 ∧ nT c - nO c ≤ f ∧ (∀ h, mS (gA s 65 (upd (rA s 65) t (rA G 20 t + nI 1))) h → cpW (goT f c t w y) h → J 12 [some (.ref 53), some (.int (nI (t + 1)))] [] h) := fun w y hy e =>
            ⟨gA G 20 (upd (rA G 20) t (rA G 20 t + nI 1)), 60, by omega, CP_cpW hc20, hko, hsh.1, by have := hn2.2.2.1; show nT G - nO G ≤ 60; omega, fun h hm hw => by
              refine ih h (mS_tr hms (mS_tr (mS_A (mS_rf s) (by omega)) hm)) ?_
              rw [e]
              exact goT_CP hc20.1 (t := t) (by show t < nT G; omega) hsh.1 hy hw⟩
          clear ih
          apply hR 100
          simp (maxSteps := 10000000) (disch := omega) only [hS, hn, sm_eqs, hf, ha, sm_b0, Int.reduceToNat, ↓reduceIte, Nat.reduceEqDiff, true_and, and_true, List.length_nil, List.length_cons, Nat.reduceAdd, Nat.reduceLeDiff, Nat.zero_le, false_implies, true_implies, not_true_eq_false, not_false_eq_true, implies_true, Nat.reduceSub, Nat.reduceMul, Nat.reduceDiv, reduceCtorEq, tn_clamp, nI_t, tn_nI, nI_add, pk_mul, rS_gS, rS_gA, rS_gL, rA_gS, rA_gA, rA_gL, rL_gS, rL_gA, rL_gL, and_self, and_false, false_and, if_true, if_false, true_or, or_true, or_false, false_or, sm_in, eqI, sI_s, Int32.toInt_zero, Int.natCast_zero, Int.natCast_one, Int.cast_ofNat_Int, Int.reduceEq, Int.reduceLT, Int.reduceLE, Int.reduceNeg, Int.reduceNe, ne_eq, n_up, g_up, e_cat, fr_A, fr_O, fr_P, fr_L, sp_X10_standing, sp_X10_goesOut, eT, e63, zM1, zM2, hsd, hng, e65, e60, e61, e62, e71, pk_us]
          clear hn hf ha hS hR
          have h18b : (rA G 18 t).toInt = 0 ∨ (rA G 18 t).toInt = 1 := by
            rcases h18 with e | e
            · rw [e]; exact Or.inl rfl
            · rw [e]; exact Or.inr rfl
          repeat' (first | (with_reducible refine And.intro ?_ ?_) | (with_reducible intro _))
          all_goals first
            | omega
            | exact r1 (by omega)
            | exact r2 _ (nI 2) (by decide) (by unfold ripG; rw [if_pos (by omega), if_pos (by omega)])
            | exact r2 _ (nI 3) (by decide) (by unfold ripG; rw [if_pos (by omega), if_neg (by omega), if_pos (by omega)])
            | exact r2 _ (nI 4) (by decide) (by unfold ripG; rw [if_pos (by omega), if_neg (by omega), if_neg (by omega)])
            | fail "G"
        · rw [stF G t (fun a => h30 a.2.2)] at ih
          have ih := ih s hms hcp
          have hst0 : 0 ≤ (rA G 30 t).toInt := by
            rw [hi.2.2.2.2.2.2 t (by omega), nI_t (by have := cnt_le (fun k => dc ((rA G 28 k).toInt ≤ 1 ∧ (rA G 27 k).toInt = (t : Int))) (nC G); omega)]; omega
          have h31 : 0 < (rA G 30 t).toInt := by omega
          apply hR 60
          simp (maxSteps := 10000000) (disch := omega) only [hS, hn, sm_eqs, hf, ha, sm_b0, Int.reduceToNat, ↓reduceIte, Nat.reduceEqDiff, true_and, and_true, List.length_nil, List.length_cons, Nat.reduceAdd, Nat.reduceLeDiff, Nat.zero_le, false_implies, true_implies, not_true_eq_false, not_false_eq_true, implies_true, Nat.reduceSub, Nat.reduceMul, Nat.reduceDiv, reduceCtorEq, tn_clamp, nI_t, tn_nI, nI_add, pk_mul, rS_gS, rS_gA, rS_gL, rA_gS, rA_gA, rA_gL, rL_gS, rL_gA, rL_gL, and_self, and_false, false_and, if_true, if_false, true_or, or_true, or_false, false_or, sm_in, eqI, sI_s, Int32.toInt_zero, Int.natCast_zero, Int.natCast_one, Int.cast_ofNat_Int, Int.reduceEq, Int.reduceLT, Int.reduceLE, Int.reduceNeg, Int.reduceNe, ne_eq, n_up, g_up, e_cat, fr_A, fr_O, fr_P, fr_L, sp_X10_standing, sp_X10_goesOut, eT, e63, zM1, zM2, hsd, h31]
          clear hn hf ha hS hR
          repeat' (first | (refine And.intro ?_ ?_) | (intro _))
          all_goals (first | with_reducible assumption | omega | (exfalso; omega))
      · rw [stF G t (fun a => hsh ⟨a.1, a.2.1⟩)] at ih
        have ih := ih s hms hcp
        have hw0 : ¬ whC G t = 0 := fun a => hsh (w3.mp a)
        apply hR 60
        simp (maxSteps := 10000000) (disch := omega) only [hS, hn, sm_eqs, hf, ha, sm_b0, Int.reduceToNat, ↓reduceIte, Nat.reduceEqDiff, true_and, and_true, List.length_nil, List.length_cons, Nat.reduceAdd, Nat.reduceLeDiff, Nat.zero_le, false_implies, true_implies, not_true_eq_false, not_false_eq_true, implies_true, Nat.reduceSub, Nat.reduceMul, Nat.reduceDiv, reduceCtorEq, tn_clamp, nI_t, tn_nI, nI_add, pk_mul, rS_gS, rS_gA, rS_gL, rA_gS, rA_gA, rA_gL, rL_gS, rL_gA, rL_gL, and_self, and_false, false_and, if_true, if_false, true_or, or_true, or_false, false_or, sm_in, eqI, sI_s, Int32.toInt_zero, Int.natCast_zero, Int.natCast_one, Int.cast_ofNat_Int, Int.reduceEq, Int.reduceLT, Int.reduceLE, Int.reduceNeg, Int.reduceNe, ne_eq, n_up, g_up, e_cat, fr_A, fr_O, fr_P, fr_L, sp_X10_standing, sp_X10_goesOut, eT, e63]
        clear hn hf ha hS hR
        repeat' (first | (refine And.intro ?_ ?_) | (intro _))
        all_goals (first | with_reducible assumption | omega | (exfalso; omega))
  have hd := CP_day h
  have h0 := loop _ 0 rfl (Nat.zero_le _) _ (mS_S (mS_rf g)) hd
  clear loop hs hpo
  apply hR 40
  simp (maxSteps := 10000000) (disch := omega) only [hS, hn, sm_eqs, hf, ha, sm_b0, Int.reduceToNat, ↓reduceIte, Nat.reduceEqDiff, true_and, and_true, List.length_nil, List.length_cons, Nat.reduceAdd, Nat.reduceLeDiff, Nat.zero_le, false_implies, true_implies, not_true_eq_false, not_false_eq_true, implies_true, Nat.reduceSub, Nat.reduceMul, Nat.reduceDiv, reduceCtorEq, tn_clamp, nI_t, tn_nI, nI_add, pk_mul, rS_gS, rS_gA, rS_gL, rA_gS, rA_gA, rA_gL, rL_gS, rL_gA, rL_gL, and_self, and_false, false_and, if_true, if_false, true_or, or_true, or_false, false_or, sm_in, eqI, sI_s, Int32.toInt_zero, Int.natCast_zero, Int.natCast_one, Int.cast_ofNat_Int, Int.reduceEq, Int.reduceLT, Int.reduceLE, Int.reduceNeg, Int.reduceNe, ne_eq, n_up, g_up, e_cat, fr_A, fr_O, fr_P, fr_L, sp_X10_standing, sp_X10_goesOut]
  clear hn hf ha hS hR
  exact h0
theorem ok_X10_oneDay (l : Launch) (c : sm_G) : sm_spok l lay sm_mt 65 222 (sp_X10_oneDay c) := Or.inr (Or.inr (Or.inr ⟨by decide, by decide, by
  rw [mt_222]
  exact sm_method (T := TX10_) v_cok v_lok v_ka v_tok_X10 mok_X10_oneDay rfl (by unfold sm_rk; simp) (wf_X10_oneDay c) (List.forall_mem_cons.mpr ⟨sm_spok_up (Nat.le_of_ble_eq_true rfl : 3 ≤ 64) (ok_X10_standing l), List.forall_mem_cons.mpr ⟨sm_spok_up (Nat.le_of_ble_eq_true rfl : 64 ≤ 64) (ok_X10_goesOut l), fun _ h => absurd h List.not_mem_nil⟩⟩) (b_X10_oneDay c)⟩))
theorem ok_X10_oneDay_E (l : Launch) : sm_spok l lay sm_mt 65 222 (spE sp_X10_oneDay) := spok_E (by decide) (by decide) (fun c => sm_spok_up (by decide) (ok_X10_oneDay l c))
def sp_X10_day (c : sm_G) : sm_SP := fun as g K => match as with
  | [.ref p, .int n] => p = 53 ∧ CP c g ∧ (∀ h, mS g h → (¬ (0 ≤ n.toInt ∧ n.toInt ≤ 100) → CP c h → K (some (.int (sI 0))) h) ∧ (0 ≤ n.toInt ∧ n.toInt ≤ 100 → CP (dayG c (tn n)) h → K (some (.int (nI (nO (dayG c (tn n)) - nO c)))) h))
  | _ => False
theorem wf_X10_day (c : sm_G) : sm_wf lay (yX10_day, cX10_day, 4, (some .int)) 2 false (sp_X10_day c) := by
  intro as g K h
  simp only [sp_X10_day] at h
  split at h
  · exact ⟨Nat.le_of_ble_eq_true rfl, by simp, rfl, fun _ => by obtain rfl := h.1; exact ⟨53, _, 10, [1, 1, 56, 57, 58, 59, 60, 61, 1, 1, 62, 63, 64, 65, 66, 67, 68, 69, 70, 71, 72, 73, 1, 74, 75, 76, 77, 1, 1, 78, 79, 1, 80, 1, 81, 1, 82, 83, 84, 85, 86, 1], TX10, 42, rfl, rfl, rfl⟩⟩
  · exact h.elim
set_option maxHeartbeats 4000000 in
set_option maxRecDepth 100000 in
theorem b_X10_day (c : sm_G) : sm_body lay NX10_day 4 0 (sm_cl [(161, sp_X10_in), (222, spE sp_X10_oneDay)]) (sp_X10_day c) := by
  intro K J S hW as g hs
  have hn := n_X10_day
  have hf := fd_all
  have ha := ar_all
  generalize NX10_day = N at hn hW
  generalize lay = L at hf ha hW
  obtain ⟨hS, hR⟩ := hW
  simp only [sp_X10_day] at hs
  split at hs
  case h_2 => exact hs.elim
  simp only [e_args, sm_pad, List.length_cons, List.length_nil, Nat.reduceAdd, Nat.reduceSub, List.replicate_succ, List.replicate_zero, List.cons_append, List.nil_append]
  rename_i p n
  obtain ⟨rfl, h, hs⟩ := hs
  have hdo := day_ok h.1
  have eO := h.2.2.2.1.2.2.2.2.2.2.2.2.2.2.2.1
  have loop : 0 ≤ n.toInt ∧ n.toInt ≤ 100 → ∀ m k, m = tn n - k → k ≤ tn n → ∀ s, mS g s → CP (dayG c k) s → J 24 [some (.ref 53), some (.int n), some (.int (nI (nO c))), some (.int (nI k))] [] s := by
    intro hn9 m
    induction m with
    | zero =>
      intro k hm hk s hms hcp
      obtain rfl : k = tn n := by omega
      have hs := (hs s hms).2 hn9 hcp
      have eO2 := hcp.2.2.2.1.2.2.2.2.2.2.2.2.2.2.2.1
      have hsub : nI (nO (dayG c (tn n))) - nI (nO c) = nI (nO (dayG c (tn n)) - nO c) := pk_sub (hdo (tn n)).2.1
      have hnn : n.toInt = (tn n : Int) := by unfold tn; omega
      apply hR 60
      simp (maxSteps := 10000000) (disch := omega) only [hS, hn, sm_eqs, hf, ha, sm_b0, Int.reduceToNat, ↓reduceIte, Nat.reduceEqDiff, true_and, and_true, List.length_nil, List.length_cons, Nat.reduceAdd, Nat.reduceLeDiff, Nat.zero_le, false_implies, true_implies, not_true_eq_false, not_false_eq_true, implies_true, Nat.reduceSub, Nat.reduceMul, Nat.reduceDiv, reduceCtorEq, tn_clamp, nI_t, tn_nI, nI_add, pk_mul, rS_gS, rS_gA, rS_gL, rA_gS, rA_gA, rA_gL, rL_gS, rL_gA, rL_gL, and_self, and_false, false_and, if_true, if_false, true_or, or_true, or_false, false_or, sm_in, eqI, sI_s, Int32.toInt_zero, Int.natCast_zero, Int.natCast_one, Int.cast_ofNat_Int, Int.reduceEq, Int.reduceLT, Int.reduceLE, Int.reduceNeg, Int.reduceNe, ne_eq, n_up, g_up, e_cat, fr_A, fr_O, fr_P, fr_L, sp_X10_in, sp_X10_oneDay, spE, eO2, hsub, hnn]
      clear hn hf ha hS hR
      exact ⟨fun a => absurd a (by omega), fun _ => hs⟩
    | succ m ih =>
      intro k hm hk s hms hcp
      have ih := fun s => ih (k + 1) (by omega) (by omega) s
      have hnn : n.toInt = (tn n : Int) := by unfold tn; omega
      clear hs
      apply hR 60
      simp (maxSteps := 10000000) (disch := omega) only [hS, hn, sm_eqs, hf, ha, sm_b0, Int.reduceToNat, ↓reduceIte, Nat.reduceEqDiff, true_and, and_true, List.length_nil, List.length_cons, Nat.reduceAdd, Nat.reduceLeDiff, Nat.zero_le, false_implies, true_implies, not_true_eq_false, not_false_eq_true, implies_true, Nat.reduceSub, Nat.reduceMul, Nat.reduceDiv, reduceCtorEq, tn_clamp, nI_t, tn_nI, nI_add, pk_mul, rS_gS, rS_gA, rS_gL, rA_gS, rA_gA, rA_gL, rL_gS, rL_gA, rL_gL, and_self, and_false, false_and, if_true, if_false, true_or, or_true, or_false, false_or, sm_in, eqI, sI_s, Int32.toInt_zero, Int.natCast_zero, Int.natCast_one, Int.cast_ofNat_Int, Int.reduceEq, Int.reduceLT, Int.reduceLE, Int.reduceNeg, Int.reduceNe, ne_eq, n_up, g_up, e_cat, fr_A, fr_O, fr_P, fr_L, sp_X10_in, sp_X10_oneDay, spE, hnn]
      clear hn hf ha hS hR
      exact ⟨fun _ => ⟨dayG c k, hcp, fun h a b => ih h (mS_tr hms a) b⟩, fun a => absurd (by omega) a⟩
  have h1 := fun a => (hs (gS g 53 1000 (nI 0)) (mS_S (mS_rf g))).1 a h
  have h0 := fun a => loop a _ 0 rfl (Nat.zero_le _) (gS g 53 1000 (nI 0)) (mS_S (mS_rf g)) h
  clear loop hs
  apply hR 60
  simp (maxSteps := 10000000) (disch := omega) only [hS, hn, sm_eqs, hf, ha, sm_b0, Int.reduceToNat, ↓reduceIte, Nat.reduceEqDiff, true_and, and_true, List.length_nil, List.length_cons, Nat.reduceAdd, Nat.reduceLeDiff, Nat.zero_le, false_implies, true_implies, not_true_eq_false, not_false_eq_true, implies_true, Nat.reduceSub, Nat.reduceMul, Nat.reduceDiv, reduceCtorEq, tn_clamp, nI_t, tn_nI, nI_add, pk_mul, rS_gS, rS_gA, rS_gL, rA_gS, rA_gA, rA_gL, rL_gS, rL_gA, rL_gL, and_self, and_false, false_and, if_true, if_false, true_or, or_true, or_false, false_or, sm_in, eqI, sI_s, Int32.toInt_zero, Int.natCast_zero, Int.natCast_one, Int.cast_ofNat_Int, Int.reduceEq, Int.reduceLT, Int.reduceLE, Int.reduceNeg, Int.reduceNe, ne_eq, n_up, g_up, e_cat, fr_A, fr_O, fr_P, fr_L, sp_X10_in, sp_X10_oneDay, spE, eO]
  clear hn hf ha hS hR
  exact ⟨fun a => h0 a, fun a => h1 a⟩
theorem ok_X10_day (l : Launch) (c : sm_G) : sm_spok l lay sm_mt 66 223 (sp_X10_day c) := Or.inr (Or.inr (Or.inr ⟨by decide, by decide, by
  rw [mt_223]
  exact sm_method (T := TX10_) v_cok v_lok v_ka v_tok_X10 mok_X10_day rfl (by unfold sm_rk; simp) (wf_X10_day c) (List.forall_mem_cons.mpr ⟨sm_spok_up (Nat.le_of_ble_eq_true rfl : 1 ≤ 65) (ok_X10_in l), List.forall_mem_cons.mpr ⟨sm_spok_up (Nat.le_of_ble_eq_true rfl : 65 ≤ 65) (ok_X10_oneDay_E l), fun _ h => absurd h List.not_mem_nil⟩⟩) (b_X10_day c)⟩))
