/-! The reference: a row torn; answers of a table told alike. -/
theorem cut_len (c : sm_G) {p : Nat} (hp : p = 6 ∨ p = 9) (x : Nat) (n : Int32) : rA (cutG c p x n) (p + 1) = upd (rA c (p + 1)) x n := by unfold cutG; rw [rA_gA, if_neg (by omega), rA_gA, if_pos rfl]
theorem cut_kn (c : sm_G) (p x : Nat) (n : Int32) : rA (cutG c p x n) (p / 3 + 83) = upd (rA c (p / 3 + 83)) x (rA c (p / 3 + 83) x &&& (nI 1 <<< (nI (tn n) &&& 31) - nI 1)) := by unfold cutG; rw [rA_gA, if_pos rfl]
theorem cut_A (c : sm_G) (p x : Nat) (n : Int32) (k : Nat) (h : k ≠ p + 1) (h2 : k ≠ p / 3 + 83) : rA (cutG c p x n) k = rA c k := by
  unfold cutG; rw [rA_gA, if_neg h2, rA_gA, if_neg h]
theorem cut_an {c : sm_G} {p x : Nat} {n : Int32} (hp : p = 6 ∨ p = 9) (hn : n.toInt ≤ 16) (y u : Nat) : anC (cutG c p x n) p y u = if y = x ∧ ¬ (u : Int) < n.toInt then sI 0 else anC c p y u := by
  unfold anC
  rw [cut_kn, cut_A c p x n (p + 2) (by omega) (by omega)]
  by_cases ey : y = x
  · subst ey; rw [pk_us, bi_land, bi_msk (by unfold tn; omega)]
    by_cases h : (u : Int) < n.toInt
    · rw [decide_eq_true (show u < tn n by unfold tn; omega), Bool.and_true, if_neg (show ¬ (y = y ∧ ¬ (u : Int) < n.toInt) from fun h2 => h2.2 h)]
    · rw [decide_eq_false (show ¬ u < tn n by unfold tn; omega), Bool.and_false, if_neg Bool.false_ne_true, if_pos (show y = y ∧ ¬ (u : Int) < n.toInt from ⟨rfl, h⟩)]
  · rw [pk_un ey, if_neg (show ¬ (y = x ∧ ¬ (u : Int) < n.toInt) from fun h => ey h.1)]
theorem cut_wL {c : sm_G} {p x : Nat} {n : Int32} (hp : p = 6 ∨ p = 9) (hl : wL c p) (hq : nQ c ≤ 16) (hx : x < 60) (hn1 : -1 ≤ n.toInt) (hn : n.toInt ≤ (rA c (p + 1) x).toInt) : wL (cutG c p x n) p := by
  intro y hy
  obtain ⟨l1, l2, l3⟩ := hl y hy
  show -1 ≤ (rA (cutG c p x n) (p + 1) y).toInt ∧ (rA (cutG c p x n) (p + 1) y).toInt ≤ (nQ c : Int) ∧ ∀ u, bitI (rA (cutG c p x n) (p / 3 + 83) y) u = true → (u : Int) < (rA (cutG c p x n) (p + 1) y).toInt ∧ (rA (cutG c p x n) (p + 2) (y * 16 + u)).toInt ≠ -1
  rw [cut_len c hp, cut_kn, cut_A c p x n (p + 2) (by omega) (by omega)]
  by_cases e : y = x
  · subst e
    rw [pk_us, pk_us]
    refine ⟨hn1, by omega, fun u hu => ?_⟩
    rw [bi_land, bi_msk (by unfold tn; omega), Bool.and_eq_true, decide_eq_true_eq] at hu
    exact ⟨by have := hu.2; unfold tn at this; omega, (l3 u hu.1).2⟩
  · rw [pk_un e, pk_un e]; exact ⟨l1, l2, l3⟩
theorem cut_wL2 {c : sm_G} {p p' x : Nat} {n : Int32} (hp : p = 6 ∧ p' = 9 ∨ p = 9 ∧ p' = 6) (hl : wL c p') : wL (cutG c p x n) p' := by
  intro y hy
  have h := hl y hy
  rw [cut_A _ _ _ _ (p' + 1) (by omega) (by omega), cut_A _ _ _ _ (p' / 3 + 83) (by omega) (by omega), cut_A _ _ _ _ (p' + 2) (by omega) (by omega)]
  exact h
theorem iv_cut {c : sm_G} (h : iv c) {p x : Nat} {n : Int32} (hp : p = 6 ∨ p = 9) (hx : x < 60) (hn1 : -1 ≤ n.toInt) (hn : n.toInt ≤ (rA c (p + 1) x).toInt) : iv (cutG c p x n) := by
  have hq := (iv_z h).1.2
  obtain ⟨iQ, iR, iT, iC⟩ := h
  rcases hp with rfl | rfl
  · have := (iR.1 x hx).2.1
    refine ⟨iQ, ⟨cut_wL (Or.inl rfl) iR.1 hq hx hn1 hn, cut_wL2 (by omega) iR.2.1, fun y u hy hu => ?_, iR.2.2.2⟩, iT, iC⟩
    rw [cut_an (Or.inl rfl) (by omega)]
    by_cases e : y = x ∧ ¬ (u : Int) < n.toInt
    · rw [if_pos e]; intro h; exact absurd sI_s.1 h
    · rw [if_neg e]; exact iR.2.2.1 y u hy hu
  · have := (iR.2.1 x hx).2.1
    refine ⟨iQ, ⟨cut_wL2 (by omega) iR.1, cut_wL (Or.inr rfl) iR.2.1 hq hx hn1 hn, iR.2.2.1, fun y u hy hu => ?_, iR.2.2.2.2⟩, iT, iC⟩
    rw [cut_an (Or.inr rfl) (by omega)]
    by_cases e : y = x ∧ ¬ (u : Int) < n.toInt
    · rw [if_pos e]; intro h; exact absurd sI_s.1 h
    · rw [if_neg e]; exact iR.2.2.2.1 y u hy hu
theorem CP_cut {c g : sm_G} (h : CP c g) {b x : Nat} {n : Int32} (hb : b = 0 ∨ b = 60) {p : Nat} (hp : b = 0 ∧ p = 9 ∨ b = 60 ∧ p = 6) (hx : x < 60) (hn1 : -1 ≤ n.toInt) (hn : n.toInt ≤ (rA c (p + 1) x).toInt) {F : Nat → Int32} (hF : ∀ i, F i = if 16 * (b + x) + tn n ≤ i ∧ i < 16 * (b + x) + 16 then sI 0 else rA g 58 i) :
    CP (cutG c p x n) (gS (gA (gA g 58 F) 59 (upd (rA g 59) (b + x) n)) 53 1000 (nI 0)) := by
  have hiv := iv_cut h.1 (show p = 6 ∨ p = 9 by omega) hx hn1 hn
  have hn16 : n.toInt ≤ 16 := by
    have z := (iv_z h.1).1.2
    rcases hp with ⟨_, rfl⟩ | ⟨_, rfl⟩
    · have := (h.1.2.1.2.1 x hx).2.1; omega
    · have := (h.1.2.1.1 x hx).2.1; omega
  obtain ⟨i, cq, ⟨q1, q2, q3, q4, q5, q6, q7, q8⟩, ct, cc⟩ := h
  have e1 := cut_len c (show p = 6 ∨ p = 9 by omega) x n
  rcases hp with ⟨rfl, rfl⟩ | ⟨rfl, rfl⟩
  · refine ⟨hiv, cq, ⟨q1, fun y u hy hu => ?_, fun y u hy hu => ?_, fun y hy => ?_, fun y hy => ?_, q6, q7, q8⟩, ct, cc⟩
    · show F (16 * (60 + y) + u) = anC c 6 y u
      rw [hF, if_neg (by omega)]; exact q2 y u hy hu
    · show F (16 * y + u) = _
      rw [hF, cut_an (by omega) hn16]
      by_cases e : y = x ∧ ¬ (u : Int) < n.toInt
      · rw [if_pos e, if_pos (by have := e.1; have := e.2; unfold tn; omega)]
      · rw [if_neg e, if_neg (by
          intro h9
          have : y = x := by omega
          exact e ⟨this, by unfold tn at h9; omega⟩)]; exact q3 y u hy hu
    · show upd (rA g 59) (0 + x) n (60 + y) = rA c 7 y
      rw [pk_un (by omega)]; exact q4 y hy
    · show upd (rA g 59) (0 + x) n y = _
      rw [e1]
      by_cases e : y = x
      · rw [e, Nat.zero_add, pk_us, pk_us]
      · rw [pk_un (by omega), pk_un e]; exact q5 y hy
  · refine ⟨hiv, cq, ⟨q1, fun y u hy hu => ?_, fun y u hy hu => ?_, fun y hy => ?_, fun y hy => ?_, q6, q7, q8⟩, ct, cc⟩
    · show F (16 * (60 + y) + u) = _
      rw [hF, cut_an (by omega) hn16]
      by_cases e : y = x ∧ ¬ (u : Int) < n.toInt
      · rw [if_pos e, if_pos (by have := e.1; have := e.2; unfold tn; omega)]
      · rw [if_neg e, if_neg (by
          intro h9
          have : y = x := by omega
          exact e ⟨this, by unfold tn at h9; omega⟩)]; exact q2 y u hy hu
    · show F (16 * y + u) = anC c 9 y u
      rw [hF, if_neg (by omega)]; exact q3 y u hy hu
    · show upd (rA g 59) (60 + x) n (60 + y) = _
      rw [e1]
      by_cases e : y = x
      · rw [e, pk_us, pk_us]
      · rw [pk_un (by omega), pk_un e]; exact q4 y hy
    · show upd (rA g 59) (60 + x) n y = rA c 10 y
      rw [pk_un (by omega)]; exact q5 y hy
def sp_X10_tear (c : sm_G) : sm_SP := fun as g K => match as with
  | [.ref p, .int b, .int x, .int n] => p = 53 ∧ CP c g ∧
      (isX c b x ∧ (rA c (rwP b + 1) (tn x)).toInt ≠ -1 ∧ -1 ≤ n.toInt ∧ n.toInt ≤ (rA c (rwP b + 1) (tn x)).toInt → ∀ h, mS g h → CP (cutG c (rwP b) (tn x) n) h → K (some (.int (nI 1))) h) ∧
      (¬ (isX c b x ∧ (rA c (rwP b + 1) (tn x)).toInt ≠ -1 ∧ -1 ≤ n.toInt ∧ n.toInt ≤ (rA c (rwP b + 1) (tn x)).toInt) → ∀ h, mS g h → CP c h → K (some (.int (nI 0))) h)
  | _ => False
theorem wf_X10_tear (c : sm_G) : sm_wf lay (yX10_tear, cX10_tear, 6, (some .boolean)) 4 false (sp_X10_tear c) := by
  intro as g K h
  simp only [sp_X10_tear] at h
  split at h
  · exact ⟨Nat.le_of_ble_eq_true rfl, by simp, rfl, fun _ => by obtain rfl := h.1; exact ⟨53, _, 10, [1, 1, 56, 57, 58, 59, 60, 61, 1, 1, 62, 63, 64, 65, 66, 67, 68, 69, 70, 71, 72, 73, 1, 74, 75, 76, 77, 1, 1, 78, 79, 1, 80, 1, 81, 1, 82, 83, 84, 85, 86, 1], TX10, 42, rfl, rfl, rfl⟩⟩
  · exact h.elim
set_option maxHeartbeats 4000000 in
set_option maxRecDepth 100000 in
theorem b_X10_tear (c : sm_G) : sm_body lay NX10_tear 6 1 (sm_cl [(174, sp_X10_rowOf c)]) (sp_X10_tear c) := by
  intro K J S hW as g hs
  have hn := n_X10_tear
  have hf := fd_all
  have ha := ar_all
  generalize NX10_tear = N at hn hW
  generalize lay = L at hf ha hW
  obtain ⟨hS, hR⟩ := hW
  simp only [sp_X10_tear] at hs
  split at hs
  case h_2 => exact hs.elim
  simp only [e_args, sm_pad, List.length_cons, List.length_nil, Nat.reduceAdd, Nat.reduceSub, List.replicate_succ, List.replicate_zero, List.cons_append, List.nil_append]
  rename_i p b x n
  obtain ⟨rfl, h, h1, h2⟩ := hs
  have hn2 := CP_n h
  have z1 := h.1.2.1.2.2.2.2.1
  have z2 := h.1.2.2.1.1
  have h0 := fun hc => h2 hc (gS g 53 1000 (nI 0)) (mS_S (mS_rf g)) h
  clear h2
  by_cases hx : isX c b x
  · have hx60 := isX_60 z1 z2 hx
    obtain ⟨x, hx2, rfl⟩ := sm_in_nI hx60
    rw [tn_nI (by omega)] at h1 h0
    have hiv := h.1
    have l6 := hiv.2.1.1 x hx2
    have l9 := hiv.2.1.2.1 x hx2
    simp only [Nat.reduceAdd] at l6 l9
    obtain ⟨B, hB, hBp⟩ : ∃ B, (B = if b.toInt = 0 then 0 else 60) ∧ (B = 0 ∧ rwP b = 9 ∨ B = 60 ∧ rwP b = 6) := by
      unfold rwP
      by_cases e : b.toInt = 0
      · exact ⟨0, by rw [if_pos e], by rw [if_pos e]; exact Or.inl ⟨rfl, rfl⟩⟩
      · exact ⟨60, by rw [if_neg e], by rw [if_neg e]; exact Or.inr ⟨rfl, rfl⟩⟩
    have hrow : (if b.toInt = 0 then x else 60 + x) = B + x := by rw [hB]; split <;> omega
    have elen : rA g 59 (B + x) = rA c (rwP b + 1) x := by
      rcases hBp with ⟨e1, e2⟩ | ⟨e1, e2⟩
      · rw [e1, e2, Nat.zero_add]; exact h.2.2.1.2.2.2.2.1 x hx2
      · rw [e1, e2]; exact h.2.2.1.2.2.2.1 x hx2
    have hl16 : (rA c (rwP b + 1) x).toInt ≤ 16 := by
      rcases hBp with ⟨e1, e2⟩ | ⟨e1, e2⟩
      · rw [e2]; show (rA c 10 x).toInt ≤ 16; omega
      · rw [e2]; show (rA c 7 x).toInt ≤ 16; omega
    have h1 := fun a1 a2 a3 => h1 ⟨hx, a1, a2, a3⟩
    have h0 := fun (a : ¬ _) => h0 (fun hc => a hc.2)
    have hBx : B + x < 120 := by omega
    have hcut := fun (a2 : -1 ≤ n.toInt) (a3 : n.toInt ≤ (rA c (rwP b + 1) x).toInt) (F : Nat → Int32) (hF : ∀ i, F i = if 16 * (B + x) + tn n ≤ i ∧ i < 16 * (B + x) + 16 then sI 0 else rA g 58 i) => CP_cut h (show B = 0 ∨ B = 60 by omega) hBp hx2 a2 a3 hF
    by_cases hc : (rA c (rwP b + 1) x).toInt ≠ -1 ∧ -1 ≤ n.toInt ∧ n.toInt ≤ (rA c (rwP b + 1) x).toInt
    · have h1 := h1 hc.1 hc.2.1 hc.2.2
      have hcut := hcut hc.2.1 hc.2.2
      clear h0
      have loop : ∀ m q, m = 16 - q → q ≤ 16 → ∀ F : Nat → Int32, (∀ i, F i = if 16 * (B + x) + tn n ≤ i ∧ i < 16 * (B + x) + q then sI 0 else rA g 58 i) → tn n ≤ q → J 67 [some (.ref 53), some (.int b), some (.int (nI x)), some (.int n), some (.int (nI (B + x))), some (.int (nI q))] [] (gS (gA (gA g 58 F) 59 (upd (rA g 59) (B + x) n)) 53 1000 (nI 0)) := by
        intro m
        induction m with
        | zero =>
          intro q hm hq F hF _
          obtain rfl : q = 16 := by omega
          have h1 := h1 _ (mS_S (mS_A (mS_A (mS_rf g) (by omega)) (by omega))) (hcut F hF)
          apply hR 60
          simp (maxSteps := 10000000) (disch := omega) only [hS, hn, sm_eqs, hf, ha, sm_b0, Int.reduceToNat, ↓reduceIte, Nat.reduceEqDiff, true_and, and_true, List.length_nil, List.length_cons, Nat.reduceAdd, Nat.reduceLeDiff, Nat.zero_le, false_implies, true_implies, not_true_eq_false, not_false_eq_true, implies_true, Nat.reduceSub, Nat.reduceMul, Nat.reduceDiv, reduceCtorEq, tn_clamp, nI_t, tn_nI, nI_add, pk_mul, rS_gS, rS_gA, rS_gL, rA_gS, rA_gA, rA_gL, rL_gS, rL_gA, rL_gL, and_self, and_false, false_and, if_true, if_false, true_or, or_true, or_false, false_or, sm_in, eqI, sI_s, Int32.toInt_zero, Int.natCast_zero, Int.natCast_one, Int.cast_ofNat_Int, Int.reduceEq, Int.reduceLT, Int.reduceLE, Int.reduceNeg, Int.reduceNe, ne_eq, n_up, g_up, e_cat, fr_A, fr_O, fr_P, fr_L, sp_X10_rowOf]
          repeat' (first | (refine And.intro ?_ ?_) | (intro _))
          all_goals (first | with_reducible assumption | omega | (exfalso; omega))
        | succ m ih =>
          intro q hm hq F hF hnq
          have ih := ih (q + 1) (by omega) (by omega) (upd F (16 * (B + x) + q) (sI 0)) (fun i => by
            by_cases e : i = 16 * (B + x) + q
            · rw [e, pk_us, if_pos (by omega)]
            · rw [pk_un e, hF]
              by_cases e2 : 16 * (B + x) + tn n ≤ i ∧ i < 16 * (B + x) + q
              · rw [if_pos e2, if_pos (by omega)]
              · rw [if_neg e2, if_neg (by omega)]) (by omega)
          clear h1 hcut
          apply hR 60
          simp (maxSteps := 10000000) (disch := omega) only [hS, hn, sm_eqs, hf, ha, sm_b0, Int.reduceToNat, ↓reduceIte, Nat.reduceEqDiff, true_and, and_true, List.length_nil, List.length_cons, Nat.reduceAdd, Nat.reduceLeDiff, Nat.zero_le, false_implies, true_implies, not_true_eq_false, not_false_eq_true, implies_true, Nat.reduceSub, Nat.reduceMul, Nat.reduceDiv, reduceCtorEq, tn_clamp, nI_t, tn_nI, nI_add, pk_mul, rS_gS, rS_gA, rS_gL, rA_gS, rA_gA, rA_gL, rL_gS, rL_gA, rL_gL, and_self, and_false, false_and, if_true, if_false, true_or, or_true, or_false, false_or, sm_in, eqI, sI_s, Int32.toInt_zero, Int.natCast_zero, Int.natCast_one, Int.cast_ofNat_Int, Int.reduceEq, Int.reduceLT, Int.reduceLE, Int.reduceNeg, Int.reduceNe, ne_eq, n_up, g_up, e_cat, fr_A, fr_O, fr_P, fr_L, sp_X10_rowOf, fr_S.2.2.2.1]
          clear hn hf ha hS hR
          repeat' (first | (refine And.intro ?_ ?_) | (intro _))
          all_goals (first | with_reducible assumption | omega | (exfalso; omega))
      have htn : tn n ≤ 16 := by have := hc.2.2; unfold tn; omega
      have a1 := loop _ (tn n) rfl htn (rA g 58) (fun i => by rw [if_neg (by omega)]) (Nat.le_refl _)
      rw [gA_self] at a1
      have b0 : n.toInt < 0 → J 67 [some (.ref 53), some (.int b), some (.int (nI x)), some (.int n), some (.int (nI (B + x))), some (.int (nI 0))] [] (gS (gA g 59 (upd (rA g 59) (B + x) n)) 53 1000 (nI 0)) := fun hl => by
        rw [show tn n = 0 by unfold tn; omega] at a1; exact a1
      have b1 : ¬ n.toInt < 0 → J 67 [some (.ref 53), some (.int b), some (.int (nI x)), some (.int n), some (.int (nI (B + x))), some (.int n)] [] (gS (gA g 59 (upd (rA g 59) (B + x) n)) 53 1000 (nI 0)) := fun hl => by
        rw [← nI_tn (by omega)] at a1; exact a1
      clear h1 hcut loop a1
      apply hR 90
      simp (maxSteps := 10000000) (disch := omega) only [hS, hn, sm_eqs, hf, ha, sm_b0, Int.reduceToNat, ↓reduceIte, Nat.reduceEqDiff, true_and, and_true, List.length_nil, List.length_cons, Nat.reduceAdd, Nat.reduceLeDiff, Nat.zero_le, false_implies, true_implies, not_true_eq_false, not_false_eq_true, implies_true, Nat.reduceSub, Nat.reduceMul, Nat.reduceDiv, reduceCtorEq, tn_clamp, nI_t, tn_nI, nI_add, pk_mul, rS_gS, rS_gA, rS_gL, rA_gS, rA_gA, rA_gL, rL_gS, rL_gA, rL_gL, and_self, and_false, false_and, if_true, if_false, true_or, or_true, or_false, false_or, sm_in, eqI, sI_s, Int32.toInt_zero, Int.natCast_zero, Int.natCast_one, Int.cast_ofNat_Int, Int.reduceEq, Int.reduceLT, Int.reduceLE, Int.reduceNeg, Int.reduceNe, ne_eq, n_up, g_up, e_cat, fr_A, fr_O, fr_P, fr_L, sp_X10_rowOf, h, cp_fr, hx, hrow, elen]
      clear hn hf ha hS hR
      repeat' (first | (with_reducible refine And.intro ?_ ?_) | (with_reducible intro _))
      all_goals (first | with_reducible assumption | omega | (exfalso; omega) | grind)
    · have h0 := h0 hc
      clear h1 hcut
      generalize rA c (rwP b + 1) x = L at *
      apply hR 90
      simp (maxSteps := 10000000) (disch := omega) only [hS, hn, sm_eqs, hf, ha, sm_b0, Int.reduceToNat, ↓reduceIte, Nat.reduceEqDiff, true_and, and_true, List.length_nil, List.length_cons, Nat.reduceAdd, Nat.reduceLeDiff, Nat.zero_le, false_implies, true_implies, not_true_eq_false, not_false_eq_true, implies_true, Nat.reduceSub, Nat.reduceMul, Nat.reduceDiv, reduceCtorEq, tn_clamp, nI_t, tn_nI, nI_add, pk_mul, rS_gS, rS_gA, rS_gL, rA_gS, rA_gA, rA_gL, rL_gS, rL_gA, rL_gL, and_self, and_false, false_and, if_true, if_false, true_or, or_true, or_false, false_or, sm_in, eqI, sI_s, Int32.toInt_zero, Int.natCast_zero, Int.natCast_one, Int.cast_ofNat_Int, Int.reduceEq, Int.reduceLT, Int.reduceLE, Int.reduceNeg, Int.reduceNe, ne_eq, n_up, g_up, e_cat, fr_A, fr_O, fr_P, fr_L, sp_X10_rowOf, h, cp_fr, hx, hrow, elen]
      clear hn hf ha hS hR
      repeat' (first | (with_reducible refine And.intro ?_ ?_) | (with_reducible intro _))
      all_goals (first | with_reducible assumption | omega | (exfalso; omega) | grind)
  · have h0 := h0 (fun hc => hx hc.1)
    apply hR 90
    simp (maxSteps := 10000000) (disch := omega) only [hS, hn, sm_eqs, hf, ha, sm_b0, Int.reduceToNat, ↓reduceIte, Nat.reduceEqDiff, true_and, and_true, List.length_nil, List.length_cons, Nat.reduceAdd, Nat.reduceLeDiff, Nat.zero_le, false_implies, true_implies, not_true_eq_false, not_false_eq_true, implies_true, Nat.reduceSub, Nat.reduceMul, Nat.reduceDiv, reduceCtorEq, tn_clamp, nI_t, tn_nI, nI_add, pk_mul, rS_gS, rS_gA, rS_gL, rA_gS, rA_gA, rA_gL, rL_gS, rL_gA, rL_gL, and_self, and_false, false_and, if_true, if_false, true_or, or_true, or_false, false_or, sm_in, eqI, sI_s, Int32.toInt_zero, Int.natCast_zero, Int.natCast_one, Int.cast_ofNat_Int, Int.reduceEq, Int.reduceLT, Int.reduceLE, Int.reduceNeg, Int.reduceNe, ne_eq, n_up, g_up, e_cat, fr_A, fr_O, fr_P, fr_L, sp_X10_rowOf, h, cp_fr, hx]
    clear hn hf ha hS hR
    repeat' (first | (with_reducible refine And.intro ?_ ?_) | (with_reducible intro _))
    all_goals (first | with_reducible assumption | omega | (exfalso; omega) | grind)
theorem ok_X10_tear (l : Launch) (c : sm_G) : sm_spok l lay sm_mt 4 176 (sp_X10_tear c) := Or.inr (Or.inr (Or.inr ⟨by decide, by decide, by
  rw [mt_176]
  exact sm_method (T := TX10_) v_cok v_lok v_ka v_tok_X10 mok_X10_tear rfl (by unfold sm_rk; simp) (wf_X10_tear c) (List.forall_mem_cons.mpr ⟨sm_spok_up (Nat.le_of_ble_eq_true rfl : 3 ≤ 3) (ok_X10_rowOf l c), fun _ h => absurd h List.not_mem_nil⟩) (b_X10_tear c)⟩))
def tldG (c : sm_G) (q a b : Nat) (is : Int32) : sm_G := gL c 5 (tld (tld (rL c 5) (q * 40 + a) b is) (q * 40 + b) a is)
theorem tld_bit (f : Nat → Int64) (w b : Nat) (is : Int32) (hb : b < 64) (u j : Nat) (hj : j < 64) : bitL (tld f w b is u) j = if u = w ∧ j = b then decide (is.toInt ≠ 0) else bitL (f u) j := by
  unfold tld
  by_cases e : u = w
  · subst e
    rw [pk_uLs]
    by_cases h0 : is.toInt = 0
    · rw [if_pos h0, bit_off hb hj]
      by_cases e2 : j = b
      · rw [if_pos ⟨rfl, e2⟩, e2]; simp [h0]
      · rw [if_neg (fun h => e2 h.2)]; simp [e2]
    · rw [if_neg h0, bit_or hb]
      by_cases e2 : j = b
      · rw [if_pos ⟨rfl, e2⟩, e2]; simp [h0]
      · rw [if_neg (fun h => e2 h.2)]; simp [e2]
  · rw [pk_uLn e, if_neg (fun h => e h.1)]
theorem idx40 {A B y j : Nat} (hy : y < 40) (hj : j < 40) (h : A * 40 + y = B * 40 + j) : A = B ∧ y = j := by omega
def sp_X10_may (c : sm_G) : sm_SP := fun as g K => match as with
  | [.ref p, .int q, .int a, .int b, .int is] => p = 53 ∧ CP c g ∧ (is = nI 0 ∨ is = nI 1) ∧
      (okQ c q ∧ vAns (rA c 2 (tn q)) (rA c 3 (tn q)) a ∧ vAns (rA c 2 (tn q)) (rA c 3 (tn q)) b ∧ (rA c 2 (tn q)).toInt = 0 →
        (a.toInt = b.toInt → ∀ h, mS g h → CP c h → K (some (.int is)) h) ∧ (a.toInt ≠ b.toInt → ∀ h, mS g h → CP (tldG c (tn q) (tn a) (tn b) is) h → K (some (.int (nI 1))) h)) ∧
      (¬ (okQ c q ∧ vAns (rA c 2 (tn q)) (rA c 3 (tn q)) a ∧ vAns (rA c 2 (tn q)) (rA c 3 (tn q)) b ∧ (rA c 2 (tn q)).toInt = 0) → ∀ h, mS g h → CP c h → K (some (.int (nI 0))) h)
  | _ => False
theorem wf_X10_may (c : sm_G) : sm_wf lay (yX10_may, cX10_may, 5, (some .boolean)) 5 false (sp_X10_may c) := by
  intro as g K h
  simp only [sp_X10_may] at h
  split at h
  · exact ⟨Nat.le_of_ble_eq_true rfl, by simp, rfl, fun _ => by obtain rfl := h.1; exact ⟨53, _, 10, [1, 1, 56, 57, 58, 59, 60, 61, 1, 1, 62, 63, 64, 65, 66, 67, 68, 69, 70, 71, 72, 73, 1, 74, 75, 76, 77, 1, 1, 78, 79, 1, 80, 1, 81, 1, 82, 83, 84, 85, 86, 1], TX10, 42, rfl, rfl, rfl⟩⟩
  · exact h.elim
set_option maxHeartbeats 4000000 in
set_option maxRecDepth 100000 in
theorem b_X10_may (c : sm_G) : sm_body lay NX10_may 5 1 (sm_cl [(163, sp_X10_isQuestion c), (164, sp_X10_isAnswer c)]) (sp_X10_may c) := by
  intro K J S hW as g hs
  have hn := n_X10_may
  have hf := fd_all
  have ha := ar_all
  generalize NX10_may = N at hn hW
  generalize lay = L at hf ha hW
  obtain ⟨hS, hR⟩ := hW
  simp only [sp_X10_may] at hs
  split at hs
  case h_2 => exact hs.elim
  simp only [e_args, sm_pad, List.length_cons, List.length_nil, Nat.reduceAdd, Nat.reduceSub, List.replicate_succ, List.replicate_zero, List.cons_append, List.nil_append]
  rename_i p q a b is
  obtain ⟨rfl, h, his, h1, h2⟩ := hs
  have hn2 := CP_n h
  have hz : sm_zr 1 is = True := by rcases his with rfl | rfl <;> simp [sm_eqs]
  by_cases hc : okQ c q ∧ vAns (rA c 2 (tn q)) (rA c 3 (tn q)) a ∧ vAns (rA c 2 (tn q)) (rA c 3 (tn q)) b ∧ (rA c 2 (tn q)).toInt = 0
  · obtain ⟨k1, k3⟩ := h1 hc
    clear h1 h2
    obtain ⟨hq, va, vb, s0⟩ := hc
    obtain ⟨q, hq2, rfl⟩ := ok_nI hq
    rw [tn_nI (by omega)] at k3 va vb s0
    have hv := (h.1.1.2 q hq2).1
    obtain ⟨i, hi, rfl⟩ : ∃ i, i < 40 ∧ a = nI i := ⟨tn a, by have := va.1; have := va.2.1 s0; unfold tn; omega, nI_tn va.1⟩
    obtain ⟨j, hj, rfl⟩ : ∃ j, j < 40 ∧ b = nI j := ⟨tn b, by have := vb.1; have := vb.2.1 s0; unfold tn; omega, nI_tn vb.1⟩
    rw [nI_t (by omega), nI_t (by omega)] at k1 k3
    rw [tn_nI (by omega), tn_nI (by omega)] at k3
    have e54 := h.2.1.2.1 q hq2
    have hcp1 : i = j → is.toInt ≠ 0 → K (some (.int is)) (gS (gA g 57 (upd (upd (rA g 57) ((q * 40 + i) * 40 + j) is) ((q * 40 + j) * 40 + i) is)) 53 1000 (nI 0)) := fun e hne => by
      refine k1 (by omega) _ (mS_S (mS_A (mS_rf g) (by omega))) ?_
      obtain ⟨iv0, ⟨q1, q2, q3, q4, q5⟩, cr, ct, cc⟩ := h
      refine ⟨iv0, ⟨q1, q2, q3, q4, fun u x y hu hx hy hxy => ?_⟩, cr, ct, cc⟩
      show ((upd (upd (rA g 57) ((q * 40 + i) * 40 + j) is) ((q * 40 + j) * 40 + i) is ((u * 40 + x) * 40 + y)).toInt = 0) = _
      rw [pk_un (fun h9 => by have w1 := idx40 hy hi h9; have w2 := idx40 hx hj w1.1; omega), pk_un (fun h9 => by have w1 := idx40 hy hj h9; have w2 := idx40 hx hi w1.1; omega)]; exact q5 u x y hu hx hy hxy
    have hcp2 : i = j → is.toInt = 0 → K (some (.int (nI 0))) (gS g 53 1000 (nI 0)) := fun e h0 => by
      have := k1 (by omega) (gS g 53 1000 (nI 0)) (mS_S (mS_rf g)) h
      rcases his with e2 | e2
      · rw [e2] at this; exact this
      · rw [e2] at h0; exact absurd h0 (by decide)
    have hcp3 : i ≠ j → K (some (.int (nI 1))) (gS (gA g 57 (upd (upd (rA g 57) ((q * 40 + i) * 40 + j) is) ((q * 40 + j) * 40 + i) is)) 53 1000 (nI 0)) := fun e => by
      refine k3 (by omega) _ (mS_S (mS_A (mS_rf g) (by omega))) ?_
      obtain ⟨iv0, ⟨q1, q2, q3, q4, q5⟩, cr, ct, cc⟩ := h
      refine ⟨iv0, ⟨q1, q2, q3, q4, fun u x y hu hx hy hxy => ?_⟩, cr, ct, cc⟩
      show ((upd (upd (rA g 57) ((q * 40 + i) * 40 + j) is) ((q * 40 + j) * 40 + i) is ((u * 40 + x) * 40 + y)).toInt = 0) = (bitL (tld (tld (rL c 5) (q * 40 + i) j is) (q * 40 + j) i is (u * 40 + x)) y = false)
      rw [tld_bit _ _ _ _ (by omega) _ _ (by omega), tld_bit _ _ _ _ (by omega) _ _ (by omega)]
      have hd : (is.toInt = 0) = (decide (is.toInt ≠ 0) = false) := by simp
      by_cases e1 : u * 40 + x = q * 40 + j ∧ y = i
      · rw [if_pos e1, show (u * 40 + x) * 40 + y = (q * 40 + j) * 40 + i by rw [e1.1, e1.2], pk_us]; exact hd
      · rw [if_neg e1]
        by_cases e2 : u * 40 + x = q * 40 + i ∧ y = j
        · rw [if_pos e2, show (u * 40 + x) * 40 + y = (q * 40 + i) * 40 + j by rw [e2.1, e2.2], pk_un (by omega), pk_us]; exact hd
        · rw [if_neg e2, pk_un (by omega), pk_un (by omega)]; exact q5 u x y hu hx hy hxy
    have his1 : is.toInt ≠ 0 → is = nI 1 := fun hne => by rcases his with e | e; exact absurd (by rw [e]; rfl) hne; exact e
    have hcp1b : i = j → ¬ is.toInt = 0 → K (some (.int (nI 1))) (gS (gA g 57 (upd (upd (rA g 57) ((q * 40 + i) * 40 + j) is) ((q * 40 + j) * 40 + i) is)) 53 1000 (nI 0)) := fun e hne => by
      have := hcp1 e hne
      rw [show (some (Value.int is)) = some (Value.int (nI 1)) by rw [his1 hne]] at this; exact this
    clear k1 k3 hcp1
    apply hR 90
    simp (maxSteps := 10000000) (disch := omega) only [hS, hn, sm_eqs, hf, ha, sm_b0, Int.reduceToNat, ↓reduceIte, Nat.reduceEqDiff, true_and, and_true, List.length_nil, List.length_cons, Nat.reduceAdd, Nat.reduceLeDiff, Nat.zero_le, false_implies, true_implies, not_true_eq_false, not_false_eq_true, implies_true, Nat.reduceSub, Nat.reduceMul, Nat.reduceDiv, reduceCtorEq, tn_clamp, nI_t, tn_nI, nI_add, pk_mul, rS_gS, rS_gA, rS_gL, rA_gS, rA_gA, rA_gL, rL_gS, rL_gA, rL_gL, and_self, and_false, false_and, if_true, if_false, true_or, or_true, or_false, false_or, sm_in, eqI, sI_s, Int32.toInt_zero, Int.natCast_zero, Int.natCast_one, Int.cast_ofNat_Int, Int.reduceEq, Int.reduceLT, Int.reduceLE, Int.reduceNeg, Int.reduceNe, ne_eq, n_up, g_up, e_cat, fr_A, fr_O, fr_P, fr_L, sp_X10_isQuestion, sp_X10_isAnswer, h, cp_fr, hq, e54, s0, va, vb, hz]
    clear hn hf ha hS hR
    grind
  · have h0 := h2 hc (gS g 53 1000 (nI 0)) (mS_S (mS_rf g)) h
    clear h1 h2
    by_cases hq : okQ c q
    · have e54 : rA g 54 (tn q) = rA c 2 (tn q) := by
        obtain ⟨q, hq2, rfl⟩ := ok_nI hq
        rw [tn_nI (by omega)]; exact h.2.1.2.1 q hq2
      have hqr : 0 ≤ q.toInt ∧ q.toInt < 16 := by unfold okQ at hq; omega
      apply hR 90
      simp (maxSteps := 10000000) (disch := omega) only [hS, hn, sm_eqs, hf, ha, sm_b0, Int.reduceToNat, ↓reduceIte, Nat.reduceEqDiff, true_and, and_true, List.length_nil, List.length_cons, Nat.reduceAdd, Nat.reduceLeDiff, Nat.zero_le, false_implies, true_implies, not_true_eq_false, not_false_eq_true, implies_true, Nat.reduceSub, Nat.reduceMul, Nat.reduceDiv, reduceCtorEq, tn_clamp, nI_t, tn_nI, nI_add, pk_mul, rS_gS, rS_gA, rS_gL, rA_gS, rA_gA, rA_gL, rL_gS, rL_gA, rL_gL, and_self, and_false, false_and, if_true, if_false, true_or, or_true, or_false, false_or, sm_in, eqI, sI_s, Int32.toInt_zero, Int.natCast_zero, Int.natCast_one, Int.cast_ofNat_Int, Int.reduceEq, Int.reduceLT, Int.reduceLE, Int.reduceNeg, Int.reduceNe, ne_eq, n_up, g_up, e_cat, fr_A, fr_O, fr_P, fr_L, sp_X10_isQuestion, sp_X10_isAnswer, h, cp_fr, hq, e54, hz]
      clear hn hf ha hS hR
      repeat' (first | (with_reducible refine And.intro ?_ ?_) | (with_reducible intro _))
      all_goals (first | with_reducible assumption | omega | (exfalso; omega) | grind)
    · apply hR 90
      simp (maxSteps := 10000000) (disch := omega) only [hS, hn, sm_eqs, hf, ha, sm_b0, Int.reduceToNat, ↓reduceIte, Nat.reduceEqDiff, true_and, and_true, List.length_nil, List.length_cons, Nat.reduceAdd, Nat.reduceLeDiff, Nat.zero_le, false_implies, true_implies, not_true_eq_false, not_false_eq_true, implies_true, Nat.reduceSub, Nat.reduceMul, Nat.reduceDiv, reduceCtorEq, tn_clamp, nI_t, tn_nI, nI_add, pk_mul, rS_gS, rS_gA, rS_gL, rA_gS, rA_gA, rA_gL, rL_gS, rL_gA, rL_gL, and_self, and_false, false_and, if_true, if_false, true_or, or_true, or_false, false_or, sm_in, eqI, sI_s, Int32.toInt_zero, Int.natCast_zero, Int.natCast_one, Int.cast_ofNat_Int, Int.reduceEq, Int.reduceLT, Int.reduceLE, Int.reduceNeg, Int.reduceNe, ne_eq, n_up, g_up, e_cat, fr_A, fr_O, fr_P, fr_L, sp_X10_isQuestion, sp_X10_isAnswer, h, cp_fr, hq]
      exact h0
theorem ok_X10_may (l : Launch) (c : sm_G) : sm_spok l lay sm_mt 3 166 (sp_X10_may c) := Or.inr (Or.inr (Or.inr ⟨by decide, by decide, by
  rw [mt_166]
  exact sm_method (T := TX10_) v_cok v_lok v_ka v_tok_X10 mok_X10_may rfl (by unfold sm_rk; simp) (wf_X10_may c) (List.forall_mem_cons.mpr ⟨sm_spok_up (Nat.le_of_ble_eq_true rfl : 2 ≤ 2) (ok_X10_isQuestion l c), List.forall_mem_cons.mpr ⟨sm_spok_up (Nat.le_of_ble_eq_true rfl : 2 ≤ 2) (ok_X10_isAnswer l c), fun _ h => absurd h List.not_mem_nil⟩⟩) (b_X10_may c)⟩))
