/-! Days; claims given. -/
/-- a thing ripens by a day -/
def ripG (g : sm_G) (t : Nat) : sm_G :=
  if (rA g 50 (tn (rA g 16 t))).toInt ≤ (rA g 20 t + nI 1).toInt then
    (if (rA g 18 t).toInt = 1 ∧ ¬ (rA g 17 t).toInt = 0 then goT 60 (gA g 20 (upd (rA g 20) t (rA g 20 t + nI 1))) t (rA g 17 t) (nI 2)
     else goT 60 (gA g 20 (upd (rA g 20) t (rA g 20 t + nI 1))) t (nI 0) (if (rA g 16 t).toInt = 4 then nI 3 else nI 4))
  else gA g 20 (upd (rA g 20) t (rA g 20 t + nI 1))
theorem wG_20 (g : sm_G) (f : Nat → Int32) : wG (gA g 20 f) = wG g := rfl
theorem wy_20 (g : sm_G) (f : Nat → Int32) (x : Nat) : whyC (gA g 20 f) x = whyC g x := rfl
theorem iv_20 (g : sm_G) (f : Nat → Int32) : iv (gA g 20 f) = iv g := rfl
theorem iv_51 (g : sm_G) (f : Nat → Int32) : iv (gA g 51 f) = iv g ∧ iv (gA g 52 f) = iv g := ⟨rfl, rfl⟩
theorem iv_9 (g : sm_G) (v : Int32) : iv (gS g 0 911 v) = iv g := rfl
theorem rip_ok {g : sm_G} (h : iv g) {t : Nat} (ht : t < nT g) (hw : whyC g t = -1) : iv (ripG g t) ∧ nO g ≤ nO (ripG g t) ∧ nT (ripG g t) = nT g := by
  have hG := iv_wG h
  have key : ∀ w y, 1 ≤ y.toInt ∧ y.toInt ≤ 4 → iv (goT 60 (gA g 20 (upd (rA g 20) t (rA g 20 t + nI 1))) t w y) ∧ nO g ≤ nO (goT 60 (gA g 20 (upd (rA g 20) t (rA g 20 t + nI 1))) t w y) ∧ nT (goT 60 (gA g 20 (upd (rA g 20) t (rA g 20 t + nI 1))) t w y) = nT g := fun w y hy => by
    obtain ⟨q1, q2, q3⟩ := gT_ok 60 (gA g 20 (upd (rA g 20) t (rA g 20 t + nI 1))) t w y (by omega) hG ht hw (by have := h.2.2.1.1.2; show nT g - nO g ≤ 60; omega)
    exact ⟨gP_iv (g := gA g 20 (upd (rA g 20) t (rA g 20 t + nI 1))) h hy q1 q2, q1.2.2.2.2.1, (gP_n q1).1⟩
  unfold ripG
  split
  · split
    · exact key _ _ (by decide)
    · split
      · exact key _ _ (by decide)
      · exact key _ _ (by decide)
  · exact ⟨h, Nat.le_refl _, rfl⟩
def sp_X9_ripen : sm_SP := fun as g K => match as with
  | [.ref p, .int t] => p = 0 ∧ iv g ∧ ∃ T, t = nI T ∧ T < nT g ∧ whyC g T = -1 ∧ (∀ fb fa, K none (gA (gA (ripG g T) 51 fb) 52 fa))
  | _ => False
theorem wf_X9_ripen : sm_wf lay (yX9_ripen, cX9_ripen, 4, none) 2 false sp_X9_ripen := by
  intro as g K h
  simp only [sp_X9_ripen] at h
  split at h
  · exact ⟨Nat.le_of_ble_eq_true rfl, by simp, rfl, fun _ => by obtain rfl := h.1; exact ⟨0, _, 9, [3, 8, 11, 14, 17, 27, 33, 35, 48, 52, 53, 1], TX9, 12, rfl, rfl, rfl⟩⟩
  · exact h.elim
set_option maxHeartbeats 4000000 in
set_option maxRecDepth 100000 in
theorem b_X9_ripen : sm_body lay NX9_ripen 4 4 (sm_cl [(96, sp_X8_kindOf), (104, sp_X8_growOlder), (98, sp_X8_isWantedByFinder), (97, sp_X8_finderOf), (155, sp_X9_sendWithContents)]) sp_X9_ripen := by
  intro K J S hW as g hs
  have hn := n_X9_ripen
  have hf := fd_all
  have ha := ar_all
  generalize NX9_ripen = N at hn hW
  generalize lay = L at hf ha hW
  obtain ⟨hS, hR⟩ := hW
  simp only [sp_X9_ripen] at hs
  split at hs
  case h_2 => exact hs.elim
  simp only [e_args, sm_pad, List.length_cons, List.length_nil, Nat.reduceAdd, Nat.reduceSub, List.replicate_succ, List.replicate_zero, List.cons_append, List.nil_append]
  rename_i p t
  obtain ⟨rfl, iv, T, rfl, hT, hw, hs⟩ := hs
  have zt := (iv_z iv).2.2.1
  have hzt := zt.2
  have hk := iv.2.2.1.2.2.2.1 T hT
  have h18 := iv.2.2.1.2.2.1
  have ho : okT g (nI T) := by unfold okT; rw [nI_t (by omega)]; omega
  have hG := iv_wG iv
  have h18b : ∀ i, (rA g 18 i).toInt = 0 ∨ (rA g 18 i).toInt = 1 := fun i => by rcases h18 i with e | e <;> rw [e] <;> decide
  have k0 : (rA g 20 T + nI 1).toInt < (rA g 50 (tn (rA g 16 T))).toInt → K none (gA g 20 (upd (rA g 20) T (rA g 20 T + nI 1))) := fun a => by
    have hs0 := hs (rA (ripG g T) 51) (rA (ripG g T) 52)
    rw [show rA (ripG g T) 52 = rA (gA (ripG g T) 51 (rA (ripG g T) 51)) 52 from rfl, gA_self, gA_self] at hs0
    unfold ripG at hs0
    rw [if_neg (by omega)] at hs0; exact hs0
  have k1 : ¬ (rA g 20 T + nI 1).toInt < (rA g 50 (tn (rA g 16 T))).toInt → ((rA g 18 T).toInt = 1 ∧ ¬ (rA g 17 T).toInt = 0) → ∀ fb fa, K none (gA (gA (goT 60 (gA g 20 (upd (rA g 20) T (rA g 20 T + nI 1))) T (rA g 17 T) (nI 2)) 51 fb) 52 fa) := fun a b => by
    unfold ripG at hs; rw [if_pos (by omega), if_pos b] at hs; exact hs
  have k2 : ¬ (rA g 20 T + nI 1).toInt < (rA g 50 (tn (rA g 16 T))).toInt → ¬ ((rA g 18 T).toInt = 1 ∧ ¬ (rA g 17 T).toInt = 0) → (rA g 16 T).toInt = 4 → ∀ fb fa, K none (gA (gA (goT 60 (gA g 20 (upd (rA g 20) T (rA g 20 T + nI 1))) T (nI 0) (nI 3)) 51 fb) 52 fa) := fun a b c => by
    unfold ripG at hs; rw [if_pos (by omega), if_neg b, if_pos c] at hs; exact hs
  have k3 : ¬ (rA g 20 T + nI 1).toInt < (rA g 50 (tn (rA g 16 T))).toInt → ¬ ((rA g 18 T).toInt = 1 ∧ ¬ (rA g 17 T).toInt = 0) → ¬ (rA g 16 T).toInt = 4 → ∀ fb fa, K none (gA (gA (goT 60 (gA g 20 (upd (rA g 20) T (rA g 20 T + nI 1))) T (nI 0) (nI 4)) 51 fb) 52 fa) := fun a b c => by
    unfold ripG at hs; rw [if_pos (by omega), if_neg b, if_neg c] at hs; exact hs
  clear iv hs
  apply hR 80
  simp (maxSteps := 10000000) (disch := omega) only [hS, hn, sm_eqs, hf, ha, sm_b0, Int.reduceToNat, ↓reduceIte, Nat.reduceEqDiff, true_and, and_true, List.length_nil, List.length_cons, Nat.reduceAdd, Nat.reduceLeDiff, Nat.zero_le, false_implies, true_implies, not_true_eq_false, not_false_eq_true, implies_true, Nat.reduceSub, Nat.reduceMul, Nat.reduceDiv, reduceCtorEq, tn_clamp, nI_t, tn_nI, nI_add, pk_mul, rS_gS, rS_gA, rS_gL, rA_gS, rA_gA, rA_gL, rL_gS, rL_gA, rL_gL, and_self, and_false, false_and, if_true, if_false, true_or, or_true, or_false, false_or, sm_in, eqI, sI_s, Int32.toInt_zero, Int.natCast_zero, Int.natCast_one, Int.cast_ofNat_Int, Int.reduceEq, Int.reduceLT, Int.reduceLE, Int.reduceNeg, Int.reduceNe, ne_eq, n_up, g_up, e_cat, fr_A, fr_O, fr_P, fr_L, sp_X8_kindOf, sp_X8_growOlder, sp_X8_isWantedByFinder, sp_X8_finderOf, sp_X9_sendWithContents, zt, ho, hk]
  clear hn hf ha hS hR
  exact ⟨fun h => absurd h (by omega), fun _ => ⟨k0, fun a => ⟨h18b, fun b => ⟨hG, T, (nI_t (by omega)).symm, hT, hw, k1 a b⟩, fun b => ⟨fun c => ⟨hG, T, (nI_t (by omega)).symm, hT, hw, k2 a b c⟩, fun c => ⟨hG, T, (nI_t (by omega)).symm, hT, hw, k3 a b c⟩⟩⟩⟩⟩
theorem ok_X9_ripen (l : Launch) : sm_spok l lay sm_mt 5 154 sp_X9_ripen := Or.inr (Or.inr (Or.inr ⟨by decide, by decide, by
  rw [mt_154]
  exact sm_method (T := TX9_) v_cok v_lok v_ka v_tok_X9 mok_X9_ripen rfl (by unfold sm_rk; simp) wf_X9_ripen (List.forall_mem_cons.mpr ⟨sm_spok_up (Nat.le_of_ble_eq_true rfl : 2 ≤ 4) (ok_X8_kindOf l), List.forall_mem_cons.mpr ⟨sm_spok_up (Nat.le_of_ble_eq_true rfl : 2 ≤ 4) (ok_X8_growOlder l), List.forall_mem_cons.mpr ⟨sm_spok_up (Nat.le_of_ble_eq_true rfl : 2 ≤ 4) (ok_X8_isWantedByFinder l), List.forall_mem_cons.mpr ⟨sm_spok_up (Nat.le_of_ble_eq_true rfl : 2 ≤ 4) (ok_X8_finderOf l), List.forall_mem_cons.mpr ⟨sm_spok_up (Nat.le_of_ble_eq_true rfl : 4 ≤ 4) (ok_X9_sendWithContents l), fun _ h => absurd h List.not_mem_nil⟩⟩⟩⟩⟩) b_X9_ripen⟩))
theorem goT_gA : ∀ (f : Nat) (g : sm_G) (t : Nat) (w y : Int32) (k : Nat) (h : Nat → Int32), 30 < k → goT f (gA g k h) t w y = gA (goT f g t w y) k h := by
  intro f
  induction f with
  | zero => intro g t w y k h _; rfl
  | succ f ih =>
    intro g t w y k h hk
    simp only [goT]
    rw [out_gA _ _ _ _ _ hk, show nT (gA g k h) = nT g from rfl]
    generalize outG g t w y = O
    have : ∀ n, itr (fun g o => if (rA g 19 o).toInt = (t : Int) then (if 0 < (rA g 30 o).toInt then mvS g o else goT f g o w y) else g) (gA O k h) n = gA (itr (fun g o => if (rA g 19 o).toInt = (t : Int) then (if 0 < (rA g 30 o).toInt then mvS g o else goT f g o w y) else g) O n) k h := by
      intro n
      induction n with
      | zero => rfl
      | succ n ihn =>
        simp only [itr]
        rw [ihn]
        generalize itr (fun g o => if (rA g 19 o).toInt = (t : Int) then (if 0 < (rA g 30 o).toInt then mvS g o else goT f g o w y) else g) O n = G
        have e19 : rA (gA G k h) 19 = rA G 19 := by rw [rA_gA, if_neg (by omega)]
        have e30 : rA (gA G k h) 30 = rA G 30 := by rw [rA_gA, if_neg (by omega)]
        rw [e19, e30]
        split
        · split
          · exact mv_gA _ _ _ hk
          · exact ih _ _ _ _ _ _ hk
        · rfl
    exact this _
theorem rip_gA (g : sm_G) (t : Nat) (k : Nat) (h : Nat → Int32) (hk : 50 < k) : ripG (gA g k h) t = gA (ripG g t) k h := by
  have e : ∀ a, a ≤ 50 → rA (gA g k h) a = rA g a := fun a ha => by rw [rA_gA, if_neg (by omega)]
  unfold ripG
  rw [e 50 (by omega), e 16 (by omega), e 20 (by omega), e 18 (by omega), e 17 (by omega), gA_comm _ _ _ (show k ≠ 20 by omega)]
  split
  · split
    · exact goT_gA _ _ _ _ _ _ _ (by omega)
    · exact goT_gA _ _ _ _ _ _ _ (by omega)
  · rfl
/-- a day passes -/
noncomputable def passG (g : sm_G) : sm_G := itr (fun g t => if dc (whyC g t = -1 ∧ bgC g t = -1 ∧ (rA g 30 t).toInt = 0) = true then ripG g t else g) (gS g 0 911 (rS g 0 911 + nI 1)) (nT g)
theorem pass_ok {g : sm_G} (h : iv g) : ∀ n, n ≤ nT g → iv (itr (fun g t => if dc (whyC g t = -1 ∧ bgC g t = -1 ∧ (rA g 30 t).toInt = 0) = true then ripG g t else g) (gS g 0 911 (rS g 0 911 + nI 1)) n) ∧ nO g ≤ nO (itr (fun g t => if dc (whyC g t = -1 ∧ bgC g t = -1 ∧ (rA g 30 t).toInt = 0) = true then ripG g t else g) (gS g 0 911 (rS g 0 911 + nI 1)) n) ∧ nT (itr (fun g t => if dc (whyC g t = -1 ∧ bgC g t = -1 ∧ (rA g 30 t).toInt = 0) = true then ripG g t else g) (gS g 0 911 (rS g 0 911 + nI 1)) n) = nT g := by
  intro n
  induction n with
  | zero => intro _; exact ⟨h, Nat.le_refl _, rfl⟩
  | succ n ih =>
    intro hn
    obtain ⟨i1, i2, i3⟩ := ih (by omega)
    simp only [itr]
    generalize itr (fun g t => if dc (whyC g t = -1 ∧ bgC g t = -1 ∧ (rA g 30 t).toInt = 0) = true then ripG g t else g) (gS g 0 911 (rS g 0 911 + nI 1)) n = G at *
    by_cases hc : dc (whyC G n = -1 ∧ bgC G n = -1 ∧ (rA G 30 n).toInt = 0) = true
    · rw [if_pos hc]
      obtain ⟨r1, r2, r3⟩ := rip_ok i1 (by omega) (dc_t.mp hc).1
      exact ⟨r1, by omega, by omega⟩
    · rw [if_neg hc]; exact ⟨i1, i2, i3⟩
def sp_X9_passDay : sm_SP := fun as g K => match as with
  | [.ref p] => p = 0 ∧ iv g ∧ (∀ fb fa, K none (gA (gA (passG g) 51 fb) 52 fa))
  | _ => False
theorem wf_X9_passDay : sm_wf lay (yX9_passDay, cX9_passDay, 2, none) 1 false sp_X9_passDay := by
  intro as g K h
  simp only [sp_X9_passDay] at h
  split at h
  · exact ⟨Nat.le_of_ble_eq_true rfl, by simp, rfl, fun _ => by obtain rfl := h.1; exact ⟨0, _, 9, [3, 8, 11, 14, 17, 27, 33, 35, 48, 52, 53, 1], TX9, 12, rfl, rfl, rfl⟩⟩
  · exact h.elim
set_option maxHeartbeats 4000000 in
set_option maxRecDepth 100000 in
theorem b_X9_passDay : sm_body lay NX9_passDay 2 4 (sm_cl [(90, sp_X8_size), (95, sp_X8_whereOf), (34, sp_X2_standingOn), (154, sp_X9_ripen)]) sp_X9_passDay := by
  intro K J S hW as g hs
  have hn := n_X9_passDay
  have hf := fd_all
  have ha := ar_all
  generalize NX9_passDay = N at hn hW
  generalize lay = L at hf ha hW
  obtain ⟨hS, hR⟩ := hW
  simp only [sp_X9_passDay] at hs
  split at hs
  case h_2 => exact hs.elim
  simp only [e_args, sm_pad, List.length_cons, List.length_nil, Nat.reduceAdd, Nat.reduceSub, List.replicate_succ, List.replicate_zero, List.cons_append, List.nil_append]
  rename_i p
  obtain ⟨rfl, h, hs⟩ := hs
  have hzt := h.2.2.1.1.2
  have loop : ∀ m t, m = nT g - t → t ≤ nT g → ∀ fb fa, J 12 [some (.ref 0), some (.int (nI t))] [] (gA (gA (itr (fun g t => if dc (whyC g t = -1 ∧ bgC g t = -1 ∧ (rA g 30 t).toInt = 0) = true then ripG g t else g) (gS g 0 911 (rS g 0 911 + nI 1)) t) 51 fb) 52 fa) := by
    intro m
    induction m with
    | zero =>
      intro t hm ht fb fa
      obtain rfl : t = nT g := by omega
      have hs := hs fb fa
      unfold passG at hs
      obtain ⟨i1, i2, i3⟩ := pass_ok h (nT g) (Nat.le_refl _)
      generalize itr (fun g t => if dc (whyC g t = -1 ∧ bgC g t = -1 ∧ (rA g 30 t).toInt = 0) = true then ripG g t else g) (gS g 0 911 (rS g 0 911 + nI 1)) (nT g) = G at *
      have zt := i1.2.2.1.1
      apply hR 60
      simp (maxSteps := 10000000) (disch := omega) only [hS, hn, sm_eqs, hf, ha, sm_b0, Int.reduceToNat, ↓reduceIte, Nat.reduceEqDiff, true_and, and_true, List.length_nil, List.length_cons, Nat.reduceAdd, Nat.reduceLeDiff, Nat.zero_le, false_implies, true_implies, not_true_eq_false, not_false_eq_true, implies_true, Nat.reduceSub, Nat.reduceMul, Nat.reduceDiv, reduceCtorEq, tn_clamp, nI_t, tn_nI, nI_add, pk_mul, rS_gS, rS_gA, rS_gL, rA_gS, rA_gA, rA_gL, rL_gS, rL_gA, rL_gL, and_self, and_false, false_and, if_true, if_false, true_or, or_true, or_false, false_or, sm_in, eqI, sI_s, Int32.toInt_zero, Int.natCast_zero, Int.natCast_one, Int.cast_ofNat_Int, Int.reduceEq, Int.reduceLT, Int.reduceLE, Int.reduceNeg, Int.reduceNe, ne_eq, n_up, g_up, e_cat, fr_A, fr_O, fr_P, fr_L, sp_X8_size, sp_X8_whereOf, sp_X2_standingOn, sp_X9_ripen, zt, i3]
      clear hn hf ha hS hR
      repeat' (first | (refine And.intro ?_ ?_) | (intro _))
      all_goals (first | with_reducible assumption | omega | (exfalso; omega))
    | succ m ih =>
      intro t hm ht fb fa
      have ih := ih (t + 1) (by omega) (by omega)
      obtain ⟨i1, i2, i3⟩ := pass_ok h t (by omega)
      simp only [itr] at ih
      generalize itr (fun g t => if dc (whyC g t = -1 ∧ bgC g t = -1 ∧ (rA g 30 t).toInt = 0) = true then ripG g t else g) (gS g 0 911 (rS g 0 911 + nI 1)) t = G at *
      have zt := i1.2.2.1.1
      have hh : hereC G (nI t) = (whyC G t = -1) := by
        unfold hereC okT whyC
        rw [nI_t (by omega), tn_nI (by omega)]
        exact propext ⟨fun h => h.2, fun h => ⟨by omega, h⟩⟩
      have e1 : whyC G t = -1 → bgC G t = -1 → (rA G 30 t).toInt = 0 → ∀ fb fa, J 12 [some (.ref 0), some (.int (nI (t + 1)))] [] (gA (gA (ripG G t) 51 fb) 52 fa) := fun a b c => by
        have := ih; rw [if_pos (dc_t.mpr ⟨a, b, c⟩)] at this; exact this
      have e0 : ¬ (whyC G t = -1 ∧ bgC G t = -1 ∧ (rA G 30 t).toInt = 0) → ∀ fb fa, J 12 [some (.ref 0), some (.int (nI (t + 1)))] [] (gA (gA G 51 fb) 52 fa) := fun a => by
        have := ih; rw [if_neg (fun hx => a (dc_t.mp hx))] at this; exact this
      have hrc : ripG (gA (gA G 51 fb) 52 fa) t = gA (gA (ripG G t) 51 fb) 52 fa := by rw [rip_gA _ _ _ _ (by decide), rip_gA _ _ _ _ (by decide)]
      clear ih hs
      unfold bgC at e1 e0
      apply hR 60
      simp (maxSteps := 10000000) (disch := omega) only [hS, hn, sm_eqs, hf, ha, sm_b0, Int.reduceToNat, ↓reduceIte, Nat.reduceEqDiff, true_and, and_true, List.length_nil, List.length_cons, Nat.reduceAdd, Nat.reduceLeDiff, Nat.zero_le, false_implies, true_implies, not_true_eq_false, not_false_eq_true, implies_true, Nat.reduceSub, Nat.reduceMul, Nat.reduceDiv, reduceCtorEq, tn_clamp, nI_t, tn_nI, nI_add, pk_mul, rS_gS, rS_gA, rS_gL, rA_gS, rA_gA, rA_gL, rL_gS, rL_gA, rL_gL, and_self, and_false, false_and, if_true, if_false, true_or, or_true, or_false, false_or, sm_in, eqI, sI_s, Int32.toInt_zero, Int.natCast_zero, Int.natCast_one, Int.cast_ofNat_Int, Int.reduceEq, Int.reduceLT, Int.reduceLE, Int.reduceNeg, Int.reduceNe, ne_eq, n_up, g_up, e_cat, fr_A, fr_O, fr_P, fr_L, sp_X8_size, sp_X8_whereOf, sp_X2_standingOn, sp_X9_ripen, zt, i3, hh]
      clear hn hf ha hS hR
      refine ⟨fun _ => ⟨fun a => e0 (fun h => a h.1) fb fa, fun a b => ⟨fun _ => ⟨fun c => ⟨i1, t, (nI_t (by omega)).symm, by omega, a, fun fb1 fa1 => ?_⟩, fun c => e0 (fun h => c h.2.2) fb fa⟩, fun c => absurd (show (0 : Int) ≤ t ∧ (t : Int) < 60 by omega) c⟩, fun a b => e0 (fun h => b h.2.1) fb fa⟩, fun h => absurd h (by omega)⟩
      rw [hrc, gA_comm (gA (ripG G t) 51 fb) _ _ (show (52 : Nat) ≠ 51 by decide), g_up.2.1, g_up.2.1]
      exact e1 a b c fb1 fa1
  have h0 := loop _ 0 rfl (Nat.zero_le _) (rA g 51) (rA g 52)
  simp only [itr] at h0
  rw [show rA g 51 = rA (gS g 0 911 (rS g 0 911 + nI 1)) 51 from rfl, gA_self, show rA g 52 = rA (gS g 0 911 (rS g 0 911 + nI 1)) 52 from rfl, gA_self] at h0
  clear hs loop
  apply hR 60
  simp (maxSteps := 10000000) (disch := omega) only [hS, hn, sm_eqs, hf, ha, sm_b0, Int.reduceToNat, ↓reduceIte, Nat.reduceEqDiff, true_and, and_true, List.length_nil, List.length_cons, Nat.reduceAdd, Nat.reduceLeDiff, Nat.zero_le, false_implies, true_implies, not_true_eq_false, not_false_eq_true, implies_true, Nat.reduceSub, Nat.reduceMul, Nat.reduceDiv, reduceCtorEq, tn_clamp, nI_t, tn_nI, nI_add, pk_mul, rS_gS, rS_gA, rS_gL, rA_gS, rA_gA, rA_gL, rL_gS, rL_gA, rL_gL, and_self, and_false, false_and, if_true, if_false, true_or, or_true, or_false, false_or, sm_in, eqI, sI_s, Int32.toInt_zero, Int.natCast_zero, Int.natCast_one, Int.cast_ofNat_Int, Int.reduceEq, Int.reduceLT, Int.reduceLE, Int.reduceNeg, Int.reduceNe, ne_eq, n_up, g_up, e_cat, fr_A, fr_O, fr_P, fr_L, sp_X8_size, sp_X8_whereOf, sp_X2_standingOn, sp_X9_ripen]
  exact h0
theorem ok_X9_passDay (l : Launch) : sm_spok l lay sm_mt 6 153 sp_X9_passDay := Or.inr (Or.inr (Or.inr ⟨by decide, by decide, by
  rw [mt_153]
  exact sm_method (T := TX9_) v_cok v_lok v_ka v_tok_X9 mok_X9_passDay rfl (by unfold sm_rk; simp) wf_X9_passDay (List.forall_mem_cons.mpr ⟨sm_spok_up (Nat.le_of_ble_eq_true rfl : 1 ≤ 5) (ok_X8_size l), List.forall_mem_cons.mpr ⟨sm_spok_up (Nat.le_of_ble_eq_true rfl : 2 ≤ 5) (ok_X8_whereOf l), List.forall_mem_cons.mpr ⟨sm_spok_up (Nat.le_of_ble_eq_true rfl : 2 ≤ 5) (ok_X2_standingOn l), List.forall_mem_cons.mpr ⟨sm_spok_up (Nat.le_of_ble_eq_true rfl : 5 ≤ 5) (ok_X9_ripen l), fun _ h => absurd h List.not_mem_nil⟩⟩⟩⟩) b_X9_passDay⟩))
theorem pass_gA (g : sm_G) (k : Nat) (h : Nat → Int32) (hk : 50 < k) : passG (gA g k h) = gA (passG g) k h := by
  unfold passG
  rw [show nT (gA g k h) = nT g from rfl, show gS (gA g k h) 0 911 (rS (gA g k h) 0 911 + nI 1) = gA (gS g 0 911 (rS g 0 911 + nI 1)) k h from rfl]
  generalize gS g 0 911 (rS g 0 911 + nI 1) = O
  have : ∀ n, itr (fun g t => if dc (whyC g t = -1 ∧ bgC g t = -1 ∧ (rA g 30 t).toInt = 0) = true then ripG g t else g) (gA O k h) n = gA (itr (fun g t => if dc (whyC g t = -1 ∧ bgC g t = -1 ∧ (rA g 30 t).toInt = 0) = true then ripG g t else g) O n) k h := by
    intro n
    induction n with
    | zero => rfl
    | succ n ihn =>
      simp only [itr]
      rw [ihn]
      generalize itr (fun g t => if dc (whyC g t = -1 ∧ bgC g t = -1 ∧ (rA g 30 t).toInt = 0) = true then ripG g t else g) O n = G
      have e : ∀ a, a ≤ 50 → rA (gA G k h) a = rA G a := fun a ha => by rw [rA_gA, if_neg (by omega)]
      have ec : (whyC (gA G k h) n = -1 ∧ bgC (gA G k h) n = -1 ∧ (rA (gA G k h) 30 n).toInt = 0) = (whyC G n = -1 ∧ bgC G n = -1 ∧ (rA G 30 n).toInt = 0) := by
        unfold whyC bgC; rw [e 23 (by omega), e 19 (by omega), e 30 (by omega)]
      rw [ec]
      split
      · exact rip_gA _ _ _ _ hk
      · rfl
  exact this _
/-- days pass -/
noncomputable def dayG (g : sm_G) : Nat → sm_G
  | 0 => g
  | n + 1 => passG (dayG g n)
theorem day_ok {g : sm_G} (h : iv g) : ∀ n, iv (dayG g n) ∧ nO g ≤ nO (dayG g n) ∧ nT (dayG g n) = nT g := by
  intro n
  induction n with
  | zero => exact ⟨h, Nat.le_refl _, rfl⟩
  | succ n ih =>
    obtain ⟨i1, i2, i3⟩ := ih
    obtain ⟨r1, r2, r3⟩ := pass_ok i1 (nT (dayG g n)) (Nat.le_refl _)
    exact ⟨r1, Nat.le_trans i2 r2, r3.trans i3⟩
def sp_X9_day : sm_SP := fun as g K => match as with
  | [.ref p, .int n] => p = 0 ∧ iv g ∧ (0 ≤ n.toInt ∧ n.toInt ≤ 100 → ∀ fb fa, K (some (.int (nI (nO (dayG g (tn n)) - nO g)))) (gA (gA (dayG g (tn n)) 51 fb) 52 fa)) ∧ (¬ (0 ≤ n.toInt ∧ n.toInt ≤ 100) → K (some (.int (sI 0))) g)
  | _ => False
theorem wf_X9_day : sm_wf lay (yX9_day, cX9_day, 4, (some .int)) 2 false sp_X9_day := by
  intro as g K h
  simp only [sp_X9_day] at h
  split at h
  · exact ⟨Nat.le_of_ble_eq_true rfl, by simp, rfl, fun _ => by obtain rfl := h.1; exact ⟨0, _, 9, [3, 8, 11, 14, 17, 27, 33, 35, 48, 52, 53, 1], TX9, 12, rfl, rfl, rfl⟩⟩
  · exact h.elim
set_option maxHeartbeats 4000000 in
set_option maxRecDepth 100000 in
theorem b_X9_day : sm_body lay NX9_day 4 0 (sm_cl [(110, sp_X8_goneCount), (153, sp_X9_passDay)]) sp_X9_day := by
  intro K J S hW as g hs
  have hn := n_X9_day
  have hf := fd_all
  have ha := ar_all
  generalize NX9_day = N at hn hW
  generalize lay = L at hf ha hW
  obtain ⟨hS, hR⟩ := hW
  simp only [sp_X9_day] at hs
  split at hs
  case h_2 => exact hs.elim
  simp only [e_args, sm_pad, List.length_cons, List.length_nil, Nat.reduceAdd, Nat.reduceSub, List.replicate_succ, List.replicate_zero, List.cons_append, List.nil_append]
  rename_i p n
  obtain ⟨rfl, h, h1, h2⟩ := hs
  have zo := h.2.2.1.2.1
  by_cases hc : 0 ≤ n.toInt ∧ n.toInt ≤ 100
  · have h1 := h1 hc
    obtain ⟨k, hk, rfl⟩ := sm_in_nI (x := n) (n := 101) ⟨hc.1, by omega⟩
    rw [tn_nI (by omega)] at h1
    clear h2
    have loop : ∀ m i, m = k - i → i ≤ k → ∀ fb fa, J 22 [some (.ref 0), some (.int (nI k)), some (.int (nI (nO g))), some (.int (nI i))] [] (gA (gA (dayG g i) 51 fb) 52 fa) := by
      intro m
      induction m with
      | zero =>
        intro i hm hi fb fa
        obtain rfl : i = k := by omega
        have h1 := h1 fb fa
        obtain ⟨d1, d2, d3⟩ := day_ok h i
        have zo2 := d1.2.2.1.2.1
        have esub := pk_sub d2
        have hzo := zo2.2
        apply hR 60
        simp (maxSteps := 10000000) (disch := omega) only [hS, hn, sm_eqs, hf, ha, sm_b0, Int.reduceToNat, ↓reduceIte, Nat.reduceEqDiff, true_and, and_true, List.length_nil, List.length_cons, Nat.reduceAdd, Nat.reduceLeDiff, Nat.zero_le, false_implies, true_implies, not_true_eq_false, not_false_eq_true, implies_true, Nat.reduceSub, Nat.reduceMul, Nat.reduceDiv, reduceCtorEq, tn_clamp, nI_t, tn_nI, nI_add, pk_mul, rS_gS, rS_gA, rS_gL, rA_gS, rA_gA, rA_gL, rL_gS, rL_gA, rL_gL, and_self, and_false, false_and, if_true, if_false, true_or, or_true, or_false, false_or, sm_in, eqI, sI_s, Int32.toInt_zero, Int.natCast_zero, Int.natCast_one, Int.cast_ofNat_Int, Int.reduceEq, Int.reduceLT, Int.reduceLE, Int.reduceNeg, Int.reduceNe, ne_eq, n_up, g_up, e_cat, fr_A, fr_O, fr_P, fr_L, sp_X8_goneCount, sp_X9_passDay, zo2, esub]
        clear hn hf ha hS hR
        repeat' (first | (refine And.intro ?_ ?_) | (intro _))
        all_goals (first | with_reducible assumption | omega | (exfalso; omega))
      | succ m ih =>
        intro i hm hi fb fa
        have ih := ih (i + 1) (by omega) (by omega)
        obtain ⟨d1, d2, d3⟩ := day_ok h i
        have d9 : iv (gA (gA (dayG g i) 51 fb) 52 fa) := d1
        clear h1
        apply hR 60
        simp (maxSteps := 10000000) (disch := omega) only [hS, hn, sm_eqs, hf, ha, sm_b0, Int.reduceToNat, ↓reduceIte, Nat.reduceEqDiff, true_and, and_true, List.length_nil, List.length_cons, Nat.reduceAdd, Nat.reduceLeDiff, Nat.zero_le, false_implies, true_implies, not_true_eq_false, not_false_eq_true, implies_true, Nat.reduceSub, Nat.reduceMul, Nat.reduceDiv, reduceCtorEq, tn_clamp, nI_t, tn_nI, nI_add, pk_mul, rS_gS, rS_gA, rS_gL, rA_gS, rA_gA, rA_gL, rL_gS, rL_gA, rL_gL, and_self, and_false, false_and, if_true, if_false, true_or, or_true, or_false, false_or, sm_in, eqI, sI_s, Int32.toInt_zero, Int.natCast_zero, Int.natCast_one, Int.cast_ofNat_Int, Int.reduceEq, Int.reduceLT, Int.reduceLE, Int.reduceNeg, Int.reduceNe, ne_eq, n_up, g_up, e_cat, fr_A, fr_O, fr_P, fr_L, sp_X8_goneCount, sp_X9_passDay, d9]
        clear hn hf ha hS hR
        refine ⟨fun _ fb1 fa1 => ?_, fun h => absurd h (by omega)⟩
        rw [pass_gA _ _ _ (by decide), pass_gA _ _ _ (by decide), gA_comm (gA (passG (dayG g i)) 51 fb) _ _ (show (52 : Nat) ≠ 51 by decide), g_up.2.1, g_up.2.1]
        exact ih fb1 fa1
    have h0 := loop _ 0 rfl (Nat.zero_le _) (rA g 51) (rA g 52)
    simp only [dayG] at h0
    rw [gA_self, gA_self] at h0
    clear h1 loop
    apply hR 60
    simp (maxSteps := 10000000) (disch := omega) only [hS, hn, sm_eqs, hf, ha, sm_b0, Int.reduceToNat, ↓reduceIte, Nat.reduceEqDiff, true_and, and_true, List.length_nil, List.length_cons, Nat.reduceAdd, Nat.reduceLeDiff, Nat.zero_le, false_implies, true_implies, not_true_eq_false, not_false_eq_true, implies_true, Nat.reduceSub, Nat.reduceMul, Nat.reduceDiv, reduceCtorEq, tn_clamp, nI_t, tn_nI, nI_add, pk_mul, rS_gS, rS_gA, rS_gL, rA_gS, rA_gA, rA_gL, rL_gS, rL_gA, rL_gL, and_self, and_false, false_and, if_true, if_false, true_or, or_true, or_false, false_or, sm_in, eqI, sI_s, Int32.toInt_zero, Int.natCast_zero, Int.natCast_one, Int.cast_ofNat_Int, Int.reduceEq, Int.reduceLT, Int.reduceLE, Int.reduceNeg, Int.reduceNe, ne_eq, n_up, g_up, e_cat, fr_A, fr_O, fr_P, fr_L, sp_X8_goneCount, sp_X9_passDay, zo]
    clear hn hf ha hS hR
    repeat' (first | (refine And.intro ?_ ?_) | (intro _))
    all_goals (first | with_reducible assumption | omega | (exfalso; omega))
  · have h2 := h2 hc
    clear h1
    apply hR 60
    simp (maxSteps := 10000000) (disch := omega) only [hS, hn, sm_eqs, hf, ha, sm_b0, Int.reduceToNat, ↓reduceIte, Nat.reduceEqDiff, true_and, and_true, List.length_nil, List.length_cons, Nat.reduceAdd, Nat.reduceLeDiff, Nat.zero_le, false_implies, true_implies, not_true_eq_false, not_false_eq_true, implies_true, Nat.reduceSub, Nat.reduceMul, Nat.reduceDiv, reduceCtorEq, tn_clamp, nI_t, tn_nI, nI_add, pk_mul, rS_gS, rS_gA, rS_gL, rA_gS, rA_gA, rA_gL, rL_gS, rL_gA, rL_gL, and_self, and_false, false_and, if_true, if_false, true_or, or_true, or_false, false_or, sm_in, eqI, sI_s, Int32.toInt_zero, Int.natCast_zero, Int.natCast_one, Int.cast_ofNat_Int, Int.reduceEq, Int.reduceLT, Int.reduceLE, Int.reduceNeg, Int.reduceNe, ne_eq, n_up, g_up, e_cat, fr_A, fr_O, fr_P, fr_L, sp_X8_goneCount, sp_X9_passDay, zo]
    clear hn hf ha hS hR
    grind
theorem ok_X9_day (l : Launch) : sm_spok l lay sm_mt 7 152 sp_X9_day := Or.inr (Or.inr (Or.inr ⟨by decide, by decide, by
  rw [mt_152]
  exact sm_method (T := TX9_) v_cok v_lok v_ka v_tok_X9 mok_X9_day rfl (by unfold sm_rk; simp) wf_X9_day (List.forall_mem_cons.mpr ⟨sm_spok_up (Nat.le_of_ble_eq_true rfl : 1 ≤ 6) (ok_X8_goneCount l), List.forall_mem_cons.mpr ⟨sm_spok_up (Nat.le_of_ble_eq_true rfl : 6 ≤ 6) (ok_X9_passDay l), fun _ h => absurd h List.not_mem_nil⟩⟩) b_X9_day⟩))
