/-! The best way of a group. -/
theorem fr_wo : (∀ (g : sm_G) (c : Nat) (v : Int32) (t q : Nat), woC (gS g 34 c v) t q = woC g t q) ∧ (∀ (g : sm_G) (k : Nat) (f : Nat → Int64) (t q : Nat), woC (gL g k f) t q = woC g t q) ∧ (∀ (g : sm_G) (k : Nat) (f : Nat → Int32) (t q : Nat), 23 < k → k < 85 → woC (gA g k f) t q = woC g t q) := by
  refine ⟨fun g c v t q => ?_, fun g k f t q => ?_, fun g k f t q h h85 => ?_⟩
  · obtain ⟨n1, n2, n3, n4, n5⟩ := fr_n (g := g) (c := c) (v := v) oth_all.2.1
    have h2 := fr_S0 (g := g) (c := c) (v := v) oth_all.2.1
    simp only [woC, n1, n3, rA_gS, h2]
  · have h2 := fr_L
    simp only [woC, rA_gL, fr_L, n_up]
  · simp (disch := omega) only [woC, rA_gA, fr_A, n_up]
    rw [if_neg (show ¬ 4 = k by omega)]
/-- what it is worth that row i is given column j, of strength s -/
def wtN (s i j : Nat) : Nat := s * 16679880978201 + (20 - j) * 21 ^ (9 - i)
theorem dig_lt {i j : Nat} : (20 - j) * 21 ^ (9 - i) ≤ 15885600931620 := by
  have h1 : 21 ^ (9 - i) ≤ 21 ^ 9 := Nat.pow_le_pow_right (by omega) (by omega)
  have h2 : (20 - j) * 21 ^ (9 - i) ≤ 20 * 21 ^ 9 := Nat.mul_le_mul (by omega) h1
  omega
theorem lN_t {n : Nat} (h : n < 9223372036854775808) : (lN n).toInt = (n : Int) := by
  unfold lN
  rw [Int64.toInt_ofNat_of_lt h]
theorem wt_t {s : Int32} {i j : Nat} (h0 : 0 ≤ s.toInt) (h1 : s.toInt ≤ 19200) : (-(s.toInt64 * lN 16679880978201 + lN ((20 - j) * 21 ^ (9 - i)))).toInt = -(wtN (tn s) i j : Int) ∧ wtN (tn s) i j ≤ 576460752303423488 := by
  have hd := dig_lt (i := i) (j := j)
  have e : s = nI (tn s) := nI_tn h0
  have ht : tn s ≤ 19200 := by unfold tn; omega
  have hw : wtN (tn s) i j ≤ 576460752303423488 := by
    have := Nat.mul_le_mul_right 16679880978201 ht
    unfold wtN
    exact Nat.le_trans (Nat.add_le_add this hd) (Nat.le_of_ble_eq_true rfl)
  have hs : s.toInt64 = lN (tn s) := by
    rw [e, tn_nI (by omega)]; exact nI_l (by omega)
  refine ⟨?_, hw⟩
  rw [hs, lN_mul, lN_add]
  show (-(lN (wtN (tn s) i j))).toInt = _
  rw [Int64.toInt_neg, lN_t (by omega), Int.bmod_eq_of_le (by omega) (by omega)]
theorem stC_bd {g : sm_G} (z : zQ g) (zt : zT g) (hw : ∀ q, q < nQ g → 1 ≤ (rA g 4 q).toInt ∧ (rA g 4 q).toInt ≤ 100) (r t : Nat) : 0 ≤ (stC g r t).toInt ∧ (stC g r t).toInt ≤ 19200 := by
  have h1 : ∀ q, 0 ≤ (woC g t q).toInt ∧ (woC g t q).toInt ≤ 1200 := fun q => by
    unfold woC
    by_cases e : (anC g 9 t q).toInt = -1
    · rw [if_pos e]; decide
    · rw [if_neg e]
      have hb := hoC_le g t q (anC g 9 t q) (nT g)
      have hz := zt.2
      have hx : ∃ w, w ≤ 100 ∧ (if q < nQ g then rA g 4 q else nI 0) = nI w := by
        by_cases e2 : q < nQ g
        · rw [if_pos e2]
          have := hw q e2
          exact ⟨tn (rA g 4 q), by unfold tn; omega, nI_tn (by omega)⟩
        · rw [if_neg e2]; exact ⟨0, by omega, rfl⟩
      obtain ⟨w, hw1, hw2⟩ := hx
      rw [hw2, pk_mul, pk_div (by omega) (by omega) (by omega), nI_t (Nat.lt_of_le_of_lt (Nat.div_le_self _ _) (by omega))]
      have : w * 12 / hoC g t q (anC g 9 t q) (nT g) ≤ w * 12 := Nat.div_le_self _ _
      generalize w * 12 / hoC g t q (anC g 9 t q) (nT g) = dd at this
      omega
  have h2 : ∀ n, n ≤ 16 → 0 ≤ (isum (fun q => if (anC g 6 r q).toInt = -1 then nI 0 else woC g t q) n).toInt ∧ (isum (fun q => if (anC g 6 r q).toInt = -1 then nI 0 else woC g t q) n).toInt ≤ 1200 * n := by
    intro n
    induction n with
    | zero => intro _; simp only [isum]; decide
    | succ n ih =>
      intro hn
      have ih := ih (by omega)
      simp only [isum]
      have hv : 0 ≤ (if (anC g 6 r n).toInt = -1 then nI 0 else woC g t n).toInt ∧ (if (anC g 6 r n).toInt = -1 then nI 0 else woC g t n).toInt ≤ 1200 := by
        split
        · decide
        · exact h1 n
      rw [Int32.toInt_add, Int.bmod_eq_of_le (by omega) (by omega)]
      omega
  have := h2 16 (Nat.le_refl _)
  unfold stC
  omega
/-- what the costs, and the gains, are of those pairs that are weighed already -/
def wI (g : sm_G) (R C : Nat) (mem gd : Nat → Nat) (J I : Nat) (ct : Nat → Int64) (gn : Nat → Int32) : Prop :=
  ∀ i j, i < R → j < 30 → (bitL (rL g 43 (mem i)) (gd j) = true ∧ j < C ∧ (j < J ∨ j = J ∧ i < I) → ct ((i + 1) * 31 + j + 1) = -((stC g (mem i) (gd j)).toInt64 * lN 16679880978201 + lN ((20 - j) * 21 ^ (9 - i))) ∧ gn ((i + 1) * 31 + j + 1) = stC g (mem i) (gd j)) ∧
    (¬ (bitL (rL g 43 (mem i)) (gd j) = true ∧ j < C ∧ (j < J ∨ j = J ∧ i < I)) → ct ((i + 1) * 31 + j + 1) = if j < C then lN 1152921504606846976 else lN 0)
def sp_X3_findBestWay : sm_SP := fun as g K => match as with
  | [.ref p] => p = 33 ∧ ∃ (R C : Nat) (mem gd : Nat → Nat), R ≤ 10 ∧ C ≤ 20 ∧ rS g 33 306 = nI R ∧ rS g 33 307 = nI C ∧ (∀ i, i < R → rA g 44 i = nI (mem i) ∧ mem i < 60) ∧ (∀ j, j < C → rA g 45 j = nI (gd j) ∧ gd j < 60) ∧ zQ g ∧ zT g ∧ (∀ q, q < nQ g → 1 ≤ (rA g 4 q).toInt ∧ (rA g 4 q).toInt ≤ 100) ∧
      (∀ wo gn cf hd rc ct rp cp sl, hO C R ct hd → wI g R C mem gd C 0 ct gn → K none (gS (gS (gS (gL (gL (gL (gL (gA (gA (gA (gA (gA g 32 wo) 36 gn) 40 cf) 41 hd) 42 rc) 35 ct) 37 rp) 38 cp) 39 sl) 34 108 (nI R)) 34 109 (nI C)) 34 110 (nI (C + R))))
  | _ => False
theorem wf_X3_findBestWay : sm_wf lay (yX3_findBestWay, cX3_findBestWay, 4, none) 1 false sp_X3_findBestWay := by
  intro as g K h
  simp only [sp_X3_findBestWay] at h
  split at h
  · exact ⟨Nat.le_of_ble_eq_true rfl, by simp, rfl, fun _ => by obtain rfl := h.1; exact ⟨33, _, 3, [33, 14, 36, 45, 46, 47, 1, 1], TX3, 8, rfl, rfl, rfl⟩⟩
  · exact h.elim
set_option maxHeartbeats 4000000 in
set_option maxRecDepth 100000 in
theorem b_X3_findBestWay : sm_body lay NX3_findBestWay 4 4 (sm_cl [(48, sp_X3_isTooLarge), (15, sp_X1_start), (59, sp_X4_weigh), (132, sp_X9_isIn), (61, sp_X4_addWorths), (16, sp_X1_allow), (17, sp_X1_solve)]) sp_X3_findBestWay := by
  intro K J S hW as g hs
  have hn := n_X3_findBestWay
  have hf := fd_all
  have ha := ar_all
  generalize NX3_findBestWay = N at hn hW
  generalize lay = L at hf ha hW
  obtain ⟨hS, hR⟩ := hW
  simp only [sp_X3_findBestWay] at hs
  split at hs
  case h_2 => exact hs.elim
  simp only [e_args, sm_pad, List.length_cons, List.length_nil, Nat.reduceAdd, Nat.reduceSub, List.replicate_succ, List.replicate_zero, List.cons_append, List.nil_append]
  rename_i p
  obtain ⟨rfl, R, C, mem, gd, hR10, hC20, eR, eC, hmem, hgd, zq, zt, hw, hs⟩ := hs
  have hst := fun r t => stC_bd zq zt hw r t
  have outer : ∀ hd rp cp, (∀ i, i < 11 → rp i = lN 0) → (∀ j, j < 31 → cp j = lN 0) → (∀ j, j < 31 → hd j = nI 0) → ∀ m j, m = C - j → j ≤ C → ∀ wo gn ct, wI g R C mem gd j 0 ct gn → ∀ v2 v3,
      J 25 [some (.ref 33), some (.int (nI j)), v2, v3] [] (gS (gS (gS (gL (gL (gL (gA (gA (gA g 32 wo) 36 gn) 41 hd) 35 ct) 37 rp) 38 cp) 34 108 (nI R)) 34 109 (nI C)) 34 110 (nI (C + R))) := by
    intro hd rp cp z1 z2 z3 m
    induction m with
    | zero =>
      intro j hm hj wo gn ct hW2 v2 v3
      have ej : j = C := by omega
      subst ej
      have hAct : hA j R ct := fun i c i1 i2 c1 c2 => by
        obtain ⟨a, b⟩ := hW2 (i - 1) (c - 1) (by omega) (by omega)
        rw [show (i - 1 + 1) * 31 + (c - 1) + 1 = i * 31 + c by omega] at a b
        by_cases hx : bitL (rL g 43 (mem (i - 1))) (gd (c - 1)) = true ∧ c - 1 < j ∧ (c - 1 < j ∨ c - 1 = j ∧ i - 1 < 0)
        · have q := hst (mem (i - 1)) (gd (c - 1))
          have w := wt_t (i := i - 1) (j := c - 1) q.1 q.2
          rw [(a hx).1, w.1]
          omega
        · rw [b hx]
          by_cases h9 : c - 1 < j
          · rw [if_pos h9, lN_t (by omega)]; omega
          · rw [if_neg h9]
            rw [lN_t (by omega)]; omega
      have hs := fun cf hd rc rp cp sl h => hs wo gn cf hd rc ct rp cp sl h hW2
      apply hR 60
      simp (maxSteps := 10000000) (disch := omega) only [hS, hn, sm_eqs, hf, ha, sm_b0, Int.reduceToNat, ↓reduceIte, Nat.reduceEqDiff, true_and, and_true, List.length_nil, List.length_cons, Nat.reduceAdd, Nat.reduceLeDiff, Nat.zero_le, false_implies, true_implies, not_true_eq_false, not_false_eq_true, implies_true, Nat.reduceSub, Nat.reduceMul, Nat.reduceDiv, reduceCtorEq, tn_clamp, nI_t, tn_nI, nI_add, pk_mul, rS_gS, rS_gA, rS_gL, rA_gS, rA_gA, rA_gL, rL_gS, rL_gA, rL_gL, and_self, and_false, false_and, if_true, if_false, true_or, or_true, or_false, false_or, sm_in, eqI, sI_s, Int32.toInt_zero, Int.natCast_zero, Int.natCast_one, Int.cast_ofNat_Int, Int.reduceEq, Int.reduceLT, Int.reduceLE, Int.reduceNeg, Int.reduceNe, ne_eq, n_up, g_up, e_cat, fr_A, fr_O, fr_P, fr_L, sp_X3_isTooLarge, sp_X1_start, sp_X4_weigh, sp_X9_isIn, sp_X4_addWorths, sp_X1_allow, sp_X1_solve, eR, eC, fr_S0 oth_all.2.1]
      clear hS hR hn
      refine ⟨fun h => absurd h (by omega), fun _ => ⟨j, R, hC20, hR10, (nI_t (by omega)).symm, (nI_t (by omega)).symm, hAct, z1, z2, fun a ha9 => by rw [z3 a ha9]; rfl, fun rp2 cp2 sl2 cf2 hd2 rc2 ho => hs cf2 hd2 rc2 rp2 cp2 sl2 ho⟩⟩
    | succ m ih =>
      intro j hm hj wo gn ct hW2 v2 v3
      have inner : ∀ m2 i, m2 = R - i → i ≤ R → ∀ gn ct wo, (∀ q, q < 16 → wo q = woC g (gd j) q) → wI g R C mem gd j i ct gn → ∀ v3, J 48 [some (.ref 33), some (.int (nI j)), some (.int (nI i)), v3] [] (gS (gS (gS (gL (gL (gL (gA (gA (gA g 32 wo) 36 gn) 41 hd) 35 ct) 37 rp) 38 cp) 34 108 (nI R)) 34 109 (nI C)) 34 110 (nI (C + R))) := by
        intro m2
        induction m2 with
        | zero =>
          intro i hm2 hi gn ct wo hwo hW3 v3
          obtain rfl : i = R := by omega
          have ih := ih (j + 1) (by omega) (by omega) wo gn ct (fun a b h1 h2 => by
            obtain ⟨x, y⟩ := hW3 a b h1 h2
            refine ⟨fun h => x ⟨h.1, h.2.1, by omega⟩, fun h => y (fun h3 => h ⟨h3.1, h3.2.1, by omega⟩)⟩) (some (.int (nI i))) v3
          clear hs
          apply hR 60
          simp (maxSteps := 10000000) (disch := omega) only [hS, hn, sm_eqs, hf, ha, sm_b0, Int.reduceToNat, ↓reduceIte, Nat.reduceEqDiff, true_and, and_true, List.length_nil, List.length_cons, Nat.reduceAdd, Nat.reduceLeDiff, Nat.zero_le, false_implies, true_implies, not_true_eq_false, not_false_eq_true, implies_true, Nat.reduceSub, Nat.reduceMul, Nat.reduceDiv, reduceCtorEq, tn_clamp, nI_t, tn_nI, nI_add, pk_mul, rS_gS, rS_gA, rS_gL, rA_gS, rA_gA, rA_gL, rL_gS, rL_gA, rL_gL, and_self, and_false, false_and, if_true, if_false, true_or, or_true, or_false, false_or, sm_in, eqI, sI_s, Int32.toInt_zero, Int.natCast_zero, Int.natCast_one, Int.cast_ofNat_Int, Int.reduceEq, Int.reduceLT, Int.reduceLE, Int.reduceNeg, Int.reduceNe, ne_eq, n_up, g_up, e_cat, fr_A, fr_O, fr_P, fr_L, sp_X3_isTooLarge, sp_X1_start, sp_X4_weigh, sp_X9_isIn, sp_X4_addWorths, sp_X1_allow, sp_X1_solve, eR, eC]
          clear hS hR hn
          exact ⟨fun h => absurd h (by omega), fun _ => ih⟩
        | succ m2 ih2 =>
          intro i hm2 hi gn ct wo hwo hW3 v3
          obtain ⟨em, ml⟩ := hmem i (by omega)
          obtain ⟨eg, gl⟩ := hgd j (by omega)
          have hsu : isum (fun q => if (anC g 6 (mem i) q).toInt = -1 then nI 0 else wo q) 16 = stC g (mem i) (gd j) := by
            unfold stC
            exact isum_congr (fun q hq => by rw [hwo q hq])
          cases hb : bitL (rL g 43 (mem i)) (gd j) with
          | false =>
            have ih2 := ih2 (i + 1) (by omega) (by omega) gn ct wo hwo (fun a b h1 h2 => by
              obtain ⟨x, y⟩ := hW3 a b h1 h2
              by_cases e : b = j ∧ a = i
              · obtain ⟨rfl, rfl⟩ := e
                exact ⟨fun h => by have h9 := h.1; rw [hb] at h9; exact absurd h9 (by decide), fun _ => y (fun h => by have h9 := h.1; rw [hb] at h9; exact absurd h9 (by decide))⟩
              · exact ⟨fun h => x ⟨h.1, h.2.1, by omega⟩, fun h => y (fun h3 => h ⟨h3.1, h3.2.1, by omega⟩)⟩) (some (.int (nI (mem i))))
            clear hs ih
            apply hR 60
            simp (maxSteps := 10000000) (disch := omega) only [hS, hn, sm_eqs, hf, ha, sm_b0, Int.reduceToNat, ↓reduceIte, Nat.reduceEqDiff, true_and, and_true, List.length_nil, List.length_cons, Nat.reduceAdd, Nat.reduceLeDiff, Nat.zero_le, false_implies, true_implies, not_true_eq_false, not_false_eq_true, implies_true, Nat.reduceSub, Nat.reduceMul, Nat.reduceDiv, reduceCtorEq, tn_clamp, nI_t, tn_nI, nI_add, pk_mul, rS_gS, rS_gA, rS_gL, rA_gS, rA_gA, rA_gL, rL_gS, rL_gA, rL_gL, and_self, and_false, false_and, if_true, if_false, true_or, or_true, or_false, false_or, sm_in, eqI, sI_s, Int32.toInt_zero, Int.natCast_zero, Int.natCast_one, Int.cast_ofNat_Int, Int.reduceEq, Int.reduceLT, Int.reduceLE, Int.reduceNeg, Int.reduceNe, ne_eq, n_up, g_up, e_cat, fr_A, fr_O, fr_P, fr_L, sp_X3_isTooLarge, sp_X1_start, sp_X4_weigh, sp_X9_isIn, sp_X4_addWorths, sp_X1_allow, sp_X1_solve, eR, eC, em, eg, hb]
            clear hS hR hn
            exact ⟨fun _ => ⟨by omega, fun h => absurd h (by omega), fun _ => ⟨fun _ => ⟨by omega, by omega, by omega, ih2⟩, fun h => absurd h (by omega)⟩⟩, fun h => absurd h (by omega)⟩
          | true =>
            have ih2 := ih2 (i + 1) (by omega) (by omega) (upd gn ((i + 1) * 31 + j + 1) (stC g (mem i) (gd j))) (vp_updL ct ((i + 1) * 31 + j + 1) (-((stC g (mem i) (gd j)).toInt64 * lN 16679880978201 + lN ((20 - j) * 21 ^ (9 - i))))) wo hwo (fun a b h1 h2 => by
              obtain ⟨x, y⟩ := hW3 a b h1 h2
              by_cases e : b = j ∧ a = i
              · obtain ⟨rfl, rfl⟩ := e
                rw [pk_uLs, pk_us]
                exact ⟨fun _ => ⟨rfl, rfl⟩, fun h => absurd ⟨hb, by omega, by omega⟩ h⟩
              · rw [pk_uLn (by omega), pk_un (by omega)]
                exact ⟨fun h => x ⟨h.1, h.2.1, by omega⟩, fun h => y (fun h3 => h ⟨h3.1, h3.2.1, by omega⟩)⟩) (some (.int (nI (mem i))))
            clear hs ih
            apply hR 60
            simp (maxSteps := 10000000) (disch := omega) only [hS, hn, sm_eqs, hf, ha, sm_b0, Int.reduceToNat, ↓reduceIte, Nat.reduceEqDiff, true_and, and_true, List.length_nil, List.length_cons, Nat.reduceAdd, Nat.reduceLeDiff, Nat.zero_le, false_implies, true_implies, not_true_eq_false, not_false_eq_true, implies_true, Nat.reduceSub, Nat.reduceMul, Nat.reduceDiv, reduceCtorEq, tn_clamp, nI_t, tn_nI, nI_add, pk_mul, rS_gS, rS_gA, rS_gL, rA_gS, rA_gA, rA_gL, rL_gS, rL_gA, rL_gL, and_self, and_false, false_and, if_true, if_false, true_or, or_true, or_false, false_or, sm_in, eqI, sI_s, Int32.toInt_zero, Int.natCast_zero, Int.natCast_one, Int.cast_ofNat_Int, Int.reduceEq, Int.reduceLT, Int.reduceLE, Int.reduceNeg, Int.reduceNe, ne_eq, n_up, g_up, e_cat, fr_A, fr_O, fr_P, fr_L, sp_X3_isTooLarge, sp_X1_start, sp_X4_weigh, sp_X9_isIn, sp_X4_addWorths, sp_X1_allow, sp_X1_solve, eR, eC, em, eg, hb, fr_S0 oth_all.2.1, hsu]
            clear hS hR hn
            exact ⟨fun _ => ⟨by omega, fun h => absurd h (by omega), fun _ => ⟨fun _ => ⟨by omega, by omega, by omega, by omega, R, C, i, j, hR10, hC20, (nI_t (by omega)).symm, (nI_t (by omega)).symm, by omega, by omega, (nI_t (by omega)).symm, (nI_t (by omega)).symm, ih2⟩, fun h => absurd h (by omega)⟩⟩, fun h => absurd h (by omega)⟩
      obtain ⟨eg, gl⟩ := hgd j (by omega)
      clear hs
      apply hR 60
      simp (maxSteps := 10000000) (disch := omega) only [hS, hn, sm_eqs, hf, ha, sm_b0, Int.reduceToNat, ↓reduceIte, Nat.reduceEqDiff, true_and, and_true, List.length_nil, List.length_cons, Nat.reduceAdd, Nat.reduceLeDiff, Nat.zero_le, false_implies, true_implies, not_true_eq_false, not_false_eq_true, implies_true, Nat.reduceSub, Nat.reduceMul, Nat.reduceDiv, reduceCtorEq, tn_clamp, nI_t, tn_nI, nI_add, pk_mul, rS_gS, rS_gA, rS_gL, rA_gS, rA_gA, rA_gL, rL_gS, rL_gA, rL_gL, and_self, and_false, false_and, if_true, if_false, true_or, or_true, or_false, false_or, sm_in, eqI, sI_s, Int32.toInt_zero, Int.natCast_zero, Int.natCast_one, Int.cast_ofNat_Int, Int.reduceEq, Int.reduceLT, Int.reduceLE, Int.reduceNeg, Int.reduceNe, ne_eq, n_up, g_up, e_cat, fr_A, fr_O, fr_P, fr_L, sp_X3_isTooLarge, sp_X1_start, sp_X4_weigh, sp_X9_isIn, sp_X4_addWorths, sp_X1_allow, sp_X1_solve, eR, eC, zq, zt, eg, fr_wo, fr_S0 oth_all.2.1]
      clear hS hR hn
      refine ⟨fun _ => ⟨by omega, by omega, fun f hf9 => inner _ 0 rfl (Nat.zero_le _) gn ct f (fun q hq => Int32.toInt_inj.mp (hf9 q hq)) hW2 v3⟩, fun h => absurd h (by omega)⟩
  clear hs
  apply hR 60
  simp (maxSteps := 10000000) (disch := omega) only [hS, hn, sm_eqs, hf, ha, sm_b0, Int.reduceToNat, ↓reduceIte, Nat.reduceEqDiff, true_and, and_true, List.length_nil, List.length_cons, Nat.reduceAdd, Nat.reduceLeDiff, Nat.zero_le, false_implies, true_implies, not_true_eq_false, not_false_eq_true, implies_true, Nat.reduceSub, Nat.reduceMul, Nat.reduceDiv, reduceCtorEq, tn_clamp, nI_t, tn_nI, nI_add, pk_mul, rS_gS, rS_gA, rS_gL, rA_gS, rA_gA, rA_gL, rL_gS, rL_gA, rL_gL, and_self, and_false, false_and, if_true, if_false, true_or, or_true, or_false, false_or, sm_in, eqI, sI_s, Int32.toInt_zero, Int.natCast_zero, Int.natCast_one, Int.cast_ofNat_Int, Int.reduceEq, Int.reduceLT, Int.reduceLE, Int.reduceNeg, Int.reduceNe, ne_eq, n_up, g_up, e_cat, fr_A, fr_O, fr_P, fr_L, sp_X3_isTooLarge, sp_X1_start, sp_X4_weigh, sp_X9_isIn, sp_X4_addWorths, sp_X1_allow, sp_X1_solve, eR, eC]
  clear hS hR hn
  refine ⟨fun h => absurd h (by omega), fun _ => ⟨R, C, hR10, hC20, (nI_t (by omega)).symm, (nI_t (by omega)).symm, fun cst gn rp cp hd a1 a2 a3 a4 a5 => ?_⟩⟩
  have h0 := outer hd rp cp a3 a4 (fun j hj => by apply Int32.toInt_inj.mp; rw [a5 j hj]; rfl) _ 0 rfl (Nat.zero_le _) (rA g 32) gn cst (fun i j h1 h2 => ⟨fun h => by omega, fun _ => by
    rw [a1 _ (by omega)]
    by_cases e : j < C
    · rw [if_pos e, if_pos (by omega)]
    · rw [if_neg e, if_neg (by omega)]⟩) none none
  rw [gA_self] at h0
  exact h0
theorem ok_X3_findBestWay (l : Launch) : sm_spok l lay sm_mt 5 52 sp_X3_findBestWay := Or.inr (Or.inr (Or.inr ⟨by decide, by decide, by
  rw [mt_52]
  exact sm_method (T := TX3_) v_cok v_lok v_ka v_tok_X3 mok_X3_findBestWay rfl (by unfold sm_rk; simp) wf_X3_findBestWay (List.forall_mem_cons.mpr ⟨sm_spok_up (Nat.le_of_ble_eq_true rfl : 1 ≤ 4) (ok_X3_isTooLarge l), List.forall_mem_cons.mpr ⟨sm_spok_up (Nat.le_of_ble_eq_true rfl : 1 ≤ 4) (ok_X1_start l), List.forall_mem_cons.mpr ⟨sm_spok_up (Nat.le_of_ble_eq_true rfl : 4 ≤ 4) (ok_X4_weigh l), List.forall_mem_cons.mpr ⟨sm_spok_up (Nat.le_of_ble_eq_true rfl : 1 ≤ 4) (ok_X9_isIn l), List.forall_mem_cons.mpr ⟨sm_spok_up (Nat.le_of_ble_eq_true rfl : 3 ≤ 4) (ok_X4_addWorths l), List.forall_mem_cons.mpr ⟨sm_spok_up (Nat.le_of_ble_eq_true rfl : 1 ≤ 4) (ok_X1_allow l), List.forall_mem_cons.mpr ⟨sm_spok_up (Nat.le_of_ble_eq_true rfl : 4 ≤ 4) (ok_X1_solve l), fun _ h => absurd h List.not_mem_nil⟩⟩⟩⟩⟩⟩⟩) b_X3_findBestWay⟩))
def sp_X3_strengthSum : sm_SP := fun as g K => match as with
  | [.ref p] => p = 33 ∧ ∃ (R C : Nat), R ≤ 10 ∧ C ≤ 20 ∧ rS g 33 306 = nI R ∧ rS g 34 108 = nI R ∧ rS g 34 109 = nI C ∧ K (some (.int (isum (fun i => match coC g i with | some j => rA g 36 ((i + 1) * 31 + j + 1) | none => nI 0) R))) g
  | _ => False
theorem wf_X3_strengthSum : sm_wf lay (yX3_strengthSum, cX3_strengthSum, 3, (some .int)) 1 false sp_X3_strengthSum := by
  intro as g K h
  simp only [sp_X3_strengthSum] at h
  split at h
  · exact ⟨Nat.le_of_ble_eq_true rfl, by simp, rfl, fun _ => by obtain rfl := h.1; exact ⟨33, _, 3, [33, 14, 36, 45, 46, 47, 1, 1], TX3, 8, rfl, rfl, rfl⟩⟩
  · exact h.elim
set_option maxHeartbeats 4000000 in
set_option maxRecDepth 100000 in
theorem b_X3_strengthSum : sm_body lay NX3_strengthSum 3 0 (sm_cl [(25, sp_X1_gainOf)]) sp_X3_strengthSum := by
  intro K J S hW as g hs
  have hn := n_X3_strengthSum
  have hf := fd_all
  have ha := ar_all
  generalize NX3_strengthSum = N at hn hW
  generalize lay = L at hf ha hW
  obtain ⟨hS, hR⟩ := hW
  simp only [sp_X3_strengthSum] at hs
  split at hs
  case h_2 => exact hs.elim
  simp only [e_args, sm_pad, List.length_cons, List.length_nil, Nat.reduceAdd, Nat.reduceSub, List.replicate_succ, List.replicate_zero, List.cons_append, List.nil_append]
  rename_i p
  obtain ⟨rfl, R, C, hR10, hC20, eR, eR2, eC, hs⟩ := hs
  have loop : ∀ m i, m = R - i → i ≤ R → J 4 [some (.ref 33), some (.int (isum (fun i => match coC g i with | some j => rA g 36 ((i + 1) * 31 + j + 1) | none => nI 0) i)), some (.int (nI i))] [] g := by
    intro m
    induction m with
    | zero =>
      intro i hm hi
      obtain rfl : i = R := by omega
      apply hR 60
      simp (maxSteps := 10000000) (disch := omega) only [hS, hn, sm_eqs, hf, ha, sm_b0, Int.reduceToNat, ↓reduceIte, Nat.reduceEqDiff, true_and, and_true, List.length_nil, List.length_cons, Nat.reduceAdd, Nat.reduceLeDiff, Nat.zero_le, false_implies, true_implies, not_true_eq_false, not_false_eq_true, implies_true, Nat.reduceSub, Nat.reduceMul, Nat.reduceDiv, reduceCtorEq, tn_clamp, nI_t, tn_nI, nI_add, pk_mul, rS_gS, rS_gA, rS_gL, rA_gS, rA_gA, rA_gL, rL_gS, rL_gA, rL_gL, and_self, and_false, false_and, if_true, if_false, true_or, or_true, or_false, false_or, sm_in, eqI, sI_s, Int32.toInt_zero, Int.natCast_zero, Int.natCast_one, Int.cast_ofNat_Int, Int.reduceEq, Int.reduceLT, Int.reduceLE, Int.reduceNeg, Int.reduceNe, ne_eq, n_up, g_up, e_cat, fr_A, fr_O, fr_P, fr_L, sp_X1_gainOf, eR]
      clear hS hR hn
      exact ⟨fun h => absurd h (by omega), fun _ => hs⟩
    | succ m ih =>
      intro i hm hi
      have ih := ih (i + 1) (by omega) (by omega)
      simp only [isum] at ih
      clear hs
      apply hR 60
      simp (maxSteps := 10000000) (disch := omega) only [hS, hn, sm_eqs, hf, ha, sm_b0, Int.reduceToNat, ↓reduceIte, Nat.reduceEqDiff, true_and, and_true, List.length_nil, List.length_cons, Nat.reduceAdd, Nat.reduceLeDiff, Nat.zero_le, false_implies, true_implies, not_true_eq_false, not_false_eq_true, implies_true, Nat.reduceSub, Nat.reduceMul, Nat.reduceDiv, reduceCtorEq, tn_clamp, nI_t, tn_nI, nI_add, pk_mul, rS_gS, rS_gA, rS_gL, rA_gS, rA_gA, rA_gL, rL_gS, rL_gA, rL_gL, and_self, and_false, false_and, if_true, if_false, true_or, or_true, or_false, false_or, sm_in, eqI, sI_s, Int32.toInt_zero, Int.natCast_zero, Int.natCast_one, Int.cast_ofNat_Int, Int.reduceEq, Int.reduceLT, Int.reduceLE, Int.reduceNeg, Int.reduceNe, ne_eq, n_up, g_up, e_cat, fr_A, fr_O, fr_P, fr_L, sp_X1_gainOf, eR, eR2, eC]
      clear hS hR hn
      refine ⟨fun _ => ⟨⟨C, hC20, (nI_t (by omega)).symm⟩, ⟨R, hR10, (nI_t (by omega)).symm⟩, by omega, by omega, fun j hj => ?_, fun hj => ?_⟩, fun h => absurd h (by omega)⟩
      · rw [hj] at ih; exact ih
      · rw [hj] at ih; exact ih
  apply hR 40
  simp (maxSteps := 10000000) (disch := omega) only [hS, hn, sm_eqs, hf, ha, sm_b0, Int.reduceToNat, ↓reduceIte, Nat.reduceEqDiff, true_and, and_true, List.length_nil, List.length_cons, Nat.reduceAdd, Nat.reduceLeDiff, Nat.zero_le, false_implies, true_implies, not_true_eq_false, not_false_eq_true, implies_true, Nat.reduceSub, Nat.reduceMul, Nat.reduceDiv, reduceCtorEq, tn_clamp, nI_t, tn_nI, nI_add, pk_mul, rS_gS, rS_gA, rS_gL, rA_gS, rA_gA, rA_gL, rL_gS, rL_gA, rL_gL, and_self, and_false, false_and, if_true, if_false, true_or, or_true, or_false, false_or, sm_in, eqI, sI_s, Int32.toInt_zero, Int.natCast_zero, Int.natCast_one, Int.cast_ofNat_Int, Int.reduceEq, Int.reduceLT, Int.reduceLE, Int.reduceNeg, Int.reduceNe, ne_eq, n_up, g_up, e_cat, fr_A, fr_O, fr_P, fr_L, sp_X1_gainOf]
  exact loop _ 0 rfl (Nat.zero_le _)
theorem ok_X3_strengthSum (l : Launch) : sm_spok l lay sm_mt 3 53 sp_X3_strengthSum := Or.inr (Or.inr (Or.inr ⟨by decide, by decide, by
  rw [mt_53]
  exact sm_method (T := TX3_) v_cok v_lok v_ka v_tok_X3 mok_X3_strengthSum rfl (by unfold sm_rk; simp) wf_X3_strengthSum (List.forall_mem_cons.mpr ⟨sm_spok_up (Nat.le_of_ble_eq_true rfl : 2 ≤ 2) (ok_X1_gainOf l), fun _ h => absurd h List.not_mem_nil⟩) b_X3_strengthSum⟩))
def sp_X3_givenTo : sm_SP := fun as g K => match as with
  | [.ref p, .int r] => p = 33 ∧ ∃ (R C : Nat) (mem gd : Nat → Nat) (i : Nat), R ≤ 10 ∧ C ≤ 20 ∧ rS g 33 306 = nI R ∧ rS g 33 307 = nI C ∧ rS g 34 109 = nI C ∧ (∀ i, i < R → rA g 44 i = nI (mem i) ∧ mem i < 60) ∧ (∀ j, j < C → rA g 45 j = nI (gd j)) ∧ i < R ∧ r = nI (mem i) ∧ (∀ k, k < i → mem k ≠ mem i) ∧
      K (some (.int (oI ((coC g i).map gd)))) g
  | _ => False
theorem wf_X3_givenTo : sm_wf lay (yX3_givenTo, cX3_givenTo, 4, (some .int)) 2 false sp_X3_givenTo := by
  intro as g K h
  simp only [sp_X3_givenTo] at h
  split at h
  · exact ⟨Nat.le_of_ble_eq_true rfl, by simp, rfl, fun _ => by obtain rfl := h.1; exact ⟨33, _, 3, [33, 14, 36, 45, 46, 47, 1, 1], TX3, 8, rfl, rfl, rfl⟩⟩
  · exact h.elim
set_option maxHeartbeats 4000000 in
set_option maxRecDepth 100000 in
theorem b_X3_givenTo : sm_body lay NX3_givenTo 4 0 (sm_cl [(24, sp_X1_columnOf)]) sp_X3_givenTo := by
  intro K J S hW as g hs
  have hn := n_X3_givenTo
  have hf := fd_all
  have ha := ar_all
  generalize NX3_givenTo = N at hn hW
  generalize lay = L at hf ha hW
  obtain ⟨hS, hR⟩ := hW
  simp only [sp_X3_givenTo] at hs
  split at hs
  case h_2 => exact hs.elim
  simp only [e_args, sm_pad, List.length_cons, List.length_nil, Nat.reduceAdd, Nat.reduceSub, List.replicate_succ, List.replicate_zero, List.cons_append, List.nil_append]
  rename_i p r
  obtain ⟨rfl, R, C, mem, gd, i, hR10, hC20, eR, eC, eC2, hmem, hgd, hi, rfl, hne, hs⟩ := hs
  have hmi := hmem i hi
  have loop : ∀ m k, m = i - k → k ≤ i → J 2 [some (.ref 33), some (.int (nI (mem i))), some (.int (nI k)), none] [] g := by
    intro m
    induction m with
    | zero =>
      intro k hm hk
      obtain rfl : k = i := by omega
      obtain ⟨em, ml⟩ := hmi
      have ecc : ffst (fun j => (rA g 41 (j + 1)).toInt == (k : Int) + 1) C = coC g k := by unfold coC; rw [eC2, tn_nI (by omega)]
      cases hc : coC g k with
      | none =>
        rw [hc] at hs ecc
        apply hR 60
        simp (maxSteps := 10000000) (disch := omega) only [hS, hn, sm_eqs, hf, ha, sm_b0, Int.reduceToNat, ↓reduceIte, Nat.reduceEqDiff, true_and, and_true, List.length_nil, List.length_cons, Nat.reduceAdd, Nat.reduceLeDiff, Nat.zero_le, false_implies, true_implies, not_true_eq_false, not_false_eq_true, implies_true, Nat.reduceSub, Nat.reduceMul, Nat.reduceDiv, reduceCtorEq, tn_clamp, nI_t, tn_nI, nI_add, pk_mul, rS_gS, rS_gA, rS_gL, rA_gS, rA_gA, rA_gL, rL_gS, rL_gA, rL_gL, and_self, and_false, false_and, if_true, if_false, true_or, or_true, or_false, false_or, sm_in, eqI, sI_s, Int32.toInt_zero, Int.natCast_zero, Int.natCast_one, Int.cast_ofNat_Int, Int.reduceEq, Int.reduceLT, Int.reduceLE, Int.reduceNeg, Int.reduceNe, ne_eq, n_up, g_up, e_cat, fr_A, fr_O, fr_P, fr_L, sp_X1_columnOf, eR, eC, eC2, em, ecc, oI]
        clear hS hR hn
        exact ⟨fun _ => ⟨by omega, ⟨C, hC20, (nI_t (by omega)).symm⟩, by omega, by omega, hs⟩, fun h => absurd h (by omega)⟩
      | some j =>
        rw [hc] at hs ecc
        have hj := (ffst_lt ecc).1
        have eg := hgd j hj
        apply hR 60
        simp (maxSteps := 10000000) (disch := omega) only [hS, hn, sm_eqs, hf, ha, sm_b0, Int.reduceToNat, ↓reduceIte, Nat.reduceEqDiff, true_and, and_true, List.length_nil, List.length_cons, Nat.reduceAdd, Nat.reduceLeDiff, Nat.zero_le, false_implies, true_implies, not_true_eq_false, not_false_eq_true, implies_true, Nat.reduceSub, Nat.reduceMul, Nat.reduceDiv, reduceCtorEq, tn_clamp, nI_t, tn_nI, nI_add, pk_mul, rS_gS, rS_gA, rS_gL, rA_gS, rA_gA, rA_gL, rL_gS, rL_gA, rL_gL, and_self, and_false, false_and, if_true, if_false, true_or, or_true, or_false, false_or, sm_in, eqI, sI_s, Int32.toInt_zero, Int.natCast_zero, Int.natCast_one, Int.cast_ofNat_Int, Int.reduceEq, Int.reduceLT, Int.reduceLE, Int.reduceNeg, Int.reduceNe, ne_eq, n_up, g_up, e_cat, fr_A, fr_O, fr_P, fr_L, sp_X1_columnOf, eR, eC, eC2, em, ecc, oI, eg]
        clear hS hR hn
        exact ⟨fun _ => ⟨by omega, ⟨C, hC20, (nI_t (by omega)).symm⟩, by omega, by omega, fun h => absurd h (by omega), fun _ => ⟨fun _ => ⟨by omega, hs⟩, fun h => absurd h (by omega)⟩⟩, fun h => absurd h (by omega)⟩
    | succ m ih =>
      intro k hm hk
      have ih := ih (k + 1) (by omega) (by omega)
      obtain ⟨em, ml⟩ := hmem k (by omega)
      have h9 := hne k (by omega)
      clear hs
      apply hR 60
      simp (maxSteps := 10000000) (disch := omega) only [hS, hn, sm_eqs, hf, ha, sm_b0, Int.reduceToNat, ↓reduceIte, Nat.reduceEqDiff, true_and, and_true, List.length_nil, List.length_cons, Nat.reduceAdd, Nat.reduceLeDiff, Nat.zero_le, false_implies, true_implies, not_true_eq_false, not_false_eq_true, implies_true, Nat.reduceSub, Nat.reduceMul, Nat.reduceDiv, reduceCtorEq, tn_clamp, nI_t, tn_nI, nI_add, pk_mul, rS_gS, rS_gA, rS_gL, rA_gS, rA_gA, rA_gL, rL_gS, rL_gA, rL_gL, and_self, and_false, false_and, if_true, if_false, true_or, or_true, or_false, false_or, sm_in, eqI, sI_s, Int32.toInt_zero, Int.natCast_zero, Int.natCast_one, Int.cast_ofNat_Int, Int.reduceEq, Int.reduceLT, Int.reduceLE, Int.reduceNeg, Int.reduceNe, ne_eq, n_up, g_up, e_cat, fr_A, fr_O, fr_P, fr_L, sp_X1_columnOf, eR, em]
      clear hS hR hn
      exact ⟨fun _ => ⟨by omega, fun h => absurd h (by omega), fun _ => ih⟩, fun h => absurd h (by omega)⟩
  apply hR 40
  simp (maxSteps := 10000000) (disch := omega) only [hS, hn, sm_eqs, hf, ha, sm_b0, Int.reduceToNat, ↓reduceIte, Nat.reduceEqDiff, true_and, and_true, List.length_nil, List.length_cons, Nat.reduceAdd, Nat.reduceLeDiff, Nat.zero_le, false_implies, true_implies, not_true_eq_false, not_false_eq_true, implies_true, Nat.reduceSub, Nat.reduceMul, Nat.reduceDiv, reduceCtorEq, tn_clamp, nI_t, tn_nI, nI_add, pk_mul, rS_gS, rS_gA, rS_gL, rA_gS, rA_gA, rA_gL, rL_gS, rL_gA, rL_gL, and_self, and_false, false_and, if_true, if_false, true_or, or_true, or_false, false_or, sm_in, eqI, sI_s, Int32.toInt_zero, Int.natCast_zero, Int.natCast_one, Int.cast_ofNat_Int, Int.reduceEq, Int.reduceLT, Int.reduceLE, Int.reduceNeg, Int.reduceNe, ne_eq, n_up, g_up, e_cat, fr_A, fr_O, fr_P, fr_L, sp_X1_columnOf]
  exact loop _ 0 rfl (Nat.zero_le _)
theorem ok_X3_givenTo (l : Launch) : sm_spok l lay sm_mt 2 54 sp_X3_givenTo := Or.inr (Or.inr (Or.inr ⟨by decide, by decide, by
  rw [mt_54]
  exact sm_method (T := TX3_) v_cok v_lok v_ka v_tok_X3 mok_X3_givenTo rfl (by unfold sm_rk; simp) wf_X3_givenTo (List.forall_mem_cons.mpr ⟨sm_spok_up (Nat.le_of_ble_eq_true rfl : 1 ≤ 1) (ok_X1_columnOf l), fun _ h => absurd h List.not_mem_nil⟩) b_X3_givenTo⟩))
