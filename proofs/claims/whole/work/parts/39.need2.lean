/-! Asking: classes as masks, a bound, the search. -/
/-- the distinct things stand in their row -/
def dI (g : sm_G) (D : Nat) (e : Nat → Nat) : Prop := D ≤ 12 ∧ rS g 46 5 = nI D ∧ ∀ j, j < D → rA g 47 j = nI (e j) ∧ e j < 60
/-- the table of classes -/
def cT (g : sm_G) (D : Nat) (B : Nat → Nat → Int) : Prop := ∀ q i, q < 16 → i < D → ∀ j, bitI (rA g 48 (q * 12 + i)) j = true ↔ (j < D ∧ B j q = B i q)
/-- the set that a mask is -/
def sM (x : Int32) (i : Nat) : Prop := bitI x i = true
theorem crd_or (S T : Nat → Prop) : crd (fun i => S i ∨ T i) ≤ crd S + crd T := by
  refine Nat.le_trans (cnt_mono 32 (fun i _ h => ?_)) (cnt_or (fun i => dc (S i)) (fun i => dc (T i)) 32)
  rcases dc_t.mp h with h | h
  · rw [Bool.or_eq_true]; exact Or.inl (dc_t.mpr h)
  · rw [Bool.or_eq_true]; exact Or.inr (dc_t.mpr h)
def sp_X0_classOf : sm_SP := fun as g K => match as with
  | [.ref p, .int i, .int q] => p = 46 ∧ ∃ (D : Nat) (e : Nat → Nat) (a b : Nat), dI g D e ∧ i = nI a ∧ a < D ∧ q = nI b ∧ b < 16 ∧ (∀ c, (∀ j, bitI c j = true ↔ (j < D ∧ (anC g 9 (e j) b).toInt = (anC g 9 (e a) b).toInt)) → K (some (.int c)) g)
  | _ => False
theorem wf_X0_classOf : sm_wf lay (yX0_classOf, cX0_classOf, 6, (some .int)) 3 false sp_X0_classOf := by
  intro as g K h
  simp only [sp_X0_classOf] at h
  split at h
  · exact ⟨Nat.le_of_ble_eq_true rfl, by simp, rfl, fun _ => by obtain rfl := h.1; exact ⟨46, _, 0, [3, 11, 49, 50, 51, 1], TX0, 6, rfl, rfl, rfl⟩⟩
  · exact h.elim
set_option maxHeartbeats 4000000 in
set_option maxRecDepth 100000 in
theorem b_X0_classOf : sm_body lay NX0_classOf 6 0 (sm_cl [(86, sp_X7_answerOf)]) sp_X0_classOf := by
  intro K J S hW as g hs
  have hn := n_X0_classOf
  have hf := fd_all
  have ha := ar_all
  generalize NX0_classOf = N at hn hW
  generalize lay = L at hf ha hW
  obtain ⟨hS, hR⟩ := hW
  simp only [sp_X0_classOf] at hs
  split at hs
  case h_2 => exact hs.elim
  simp only [e_args, sm_pad, List.length_cons, List.length_nil, Nat.reduceAdd, Nat.reduceSub, List.replicate_succ, List.replicate_zero, List.cons_append, List.nil_append]
  rename_i p i q
  obtain ⟨rfl, D, e, a, b, ⟨hD, eD, he⟩, rfl, haD, rfl, hb16, hs⟩ := hs
  obtain ⟨ea, la⟩ := he a haD
  have loop : ∀ m j, m = D - j → j ≤ D → ∀ c, (∀ i, bitI c i = true ↔ (i < j ∧ (anC g 9 (e i) b).toInt = (anC g 9 (e a) b).toInt)) → J 21 [some (.ref 46), some (.int (nI a)), some (.int (nI b)), some (.int (anC g 9 (e a) b)), some (.int c), some (.int (nI j))] [] g := by
    intro m
    induction m with
    | zero =>
      intro j hm hj c hc
      obtain rfl : j = D := by omega
      have hs := hs c hc
      apply hR 60
      simp (maxSteps := 10000000) (disch := omega) only [hS, hn, sm_eqs, hf, ha, sm_b0, Int.reduceToNat, ↓reduceIte, Nat.reduceEqDiff, true_and, and_true, List.length_nil, List.length_cons, Nat.reduceAdd, Nat.reduceLeDiff, Nat.zero_le, false_implies, true_implies, not_true_eq_false, not_false_eq_true, implies_true, Nat.reduceSub, Nat.reduceMul, Nat.reduceDiv, reduceCtorEq, tn_clamp, nI_t, tn_nI, nI_add, pk_mul, rS_gS, rS_gA, rS_gL, rA_gS, rA_gA, rA_gL, rL_gS, rL_gA, rL_gL, and_self, and_false, false_and, if_true, if_false, true_or, or_true, or_false, false_or, sm_in, eqI, sI_s, Int32.toInt_zero, Int.natCast_zero, Int.natCast_one, Int.cast_ofNat_Int, Int.reduceEq, Int.reduceLT, Int.reduceLE, Int.reduceNeg, Int.reduceNe, ne_eq, n_up, g_up, e_cat, fr_A, fr_O, fr_P, fr_L, sp_X7_answerOf, eD]
      repeat' (first | (refine And.intro ?_ ?_) | (intro _))
      all_goals (first | with_reducible assumption | omega | (exfalso; omega))
    | succ m ih =>
      intro j hm hj c hc
      obtain ⟨ej, lj⟩ := he j (by omega)
      have e1 : (anC g 9 (e j) b).toInt = (anC g 9 (e a) b).toInt → _ := fun h => ih (j + 1) (by omega) (by omega) (c ||| nI 1 <<< (nI j &&& 31)) (fun i => by
        rw [bi_or (by omega), Bool.or_eq_true, hc i, decide_eq_true_eq]
        constructor
        · rintro (⟨h1, h2⟩ | rfl)
          · exact ⟨by omega, h2⟩
          · exact ⟨by omega, h⟩
        · rintro ⟨h1, h2⟩
          by_cases e2 : i = j
          · exact Or.inr e2
          · exact Or.inl ⟨by omega, h2⟩)
      have e0 : ¬ (anC g 9 (e j) b).toInt = (anC g 9 (e a) b).toInt → _ := fun h => ih (j + 1) (by omega) (by omega) c (fun i => by
        rw [hc i]
        constructor
        · rintro ⟨h1, h2⟩; exact ⟨by omega, h2⟩
        · rintro ⟨h1, h2⟩
          by_cases e2 : i = j
          · rw [e2] at h2; exact absurd h2 h
          · exact ⟨by omega, h2⟩)
      clear hs ih
      apply hR 60
      simp (maxSteps := 10000000) (disch := omega) only [hS, hn, sm_eqs, hf, ha, sm_b0, Int.reduceToNat, ↓reduceIte, Nat.reduceEqDiff, true_and, and_true, List.length_nil, List.length_cons, Nat.reduceAdd, Nat.reduceLeDiff, Nat.zero_le, false_implies, true_implies, not_true_eq_false, not_false_eq_true, implies_true, Nat.reduceSub, Nat.reduceMul, Nat.reduceDiv, reduceCtorEq, tn_clamp, nI_t, tn_nI, nI_add, pk_mul, rS_gS, rS_gA, rS_gL, rA_gS, rA_gA, rA_gL, rL_gS, rL_gA, rL_gL, and_self, and_false, false_and, if_true, if_false, true_or, or_true, or_false, false_or, sm_in, eqI, sI_s, Int32.toInt_zero, Int.natCast_zero, Int.natCast_one, Int.cast_ofNat_Int, Int.reduceEq, Int.reduceLT, Int.reduceLE, Int.reduceNeg, Int.reduceNe, ne_eq, n_up, g_up, e_cat, fr_A, fr_O, fr_P, fr_L, sp_X7_answerOf, eD, ej, aC_nI]
      clear hn hf ha hS hR
      repeat' (first | (refine And.intro ?_ ?_) | (intro _))
      all_goals (first | with_reducible assumption | omega | (exfalso; omega) | exact e1 (by assumption) | exact e0 (by assumption))
  have h0 := loop _ 0 rfl (Nat.zero_le _) (nI 0) (fun i => by rw [bi_0]; exact ⟨fun h => (by cases h), fun h => (by omega)⟩)
  clear hs loop
  apply hR 40
  simp (maxSteps := 10000000) (disch := omega) only [hS, hn, sm_eqs, hf, ha, sm_b0, Int.reduceToNat, ↓reduceIte, Nat.reduceEqDiff, true_and, and_true, List.length_nil, List.length_cons, Nat.reduceAdd, Nat.reduceLeDiff, Nat.zero_le, false_implies, true_implies, not_true_eq_false, not_false_eq_true, implies_true, Nat.reduceSub, Nat.reduceMul, Nat.reduceDiv, reduceCtorEq, tn_clamp, nI_t, tn_nI, nI_add, pk_mul, rS_gS, rS_gA, rS_gL, rA_gS, rA_gA, rA_gL, rL_gS, rL_gA, rL_gL, and_self, and_false, false_and, if_true, if_false, true_or, or_true, or_false, false_or, sm_in, eqI, sI_s, Int32.toInt_zero, Int.natCast_zero, Int.natCast_one, Int.cast_ofNat_Int, Int.reduceEq, Int.reduceLT, Int.reduceLE, Int.reduceNeg, Int.reduceNe, ne_eq, n_up, g_up, e_cat, fr_A, fr_O, fr_P, fr_L, sp_X7_answerOf, ea, aC_nI]
  repeat' (first | (refine And.intro ?_ ?_) | (intro _))
  all_goals (first | with_reducible assumption | omega | (exfalso; omega))
theorem ok_X0_classOf (l : Launch) : sm_spok l lay sm_mt 3 9 sp_X0_classOf := Or.inr (Or.inr (Or.inr ⟨by decide, by decide, by
  rw [mt_9]
  exact sm_method (T := TX0_) v_cok v_lok v_ka v_tok_X0 mok_X0_classOf rfl (by unfold sm_rk; simp) wf_X0_classOf (List.forall_mem_cons.mpr ⟨sm_spok_up (Nat.le_of_ble_eq_true rfl : 2 ≤ 2) (ok_X7_answerOf l), fun _ h => absurd h List.not_mem_nil⟩) b_X0_classOf⟩))
def sp_X0_countParts : sm_SP := fun as g K => match as with
  | [.ref p, .int x, .int q] => p = 46 ∧ ∃ (D : Nat) (B : Nat → Nat → Int) (b : Nat), D ≤ 12 ∧ rS g 46 5 = nI D ∧ cT g D B ∧ q = nI b ∧ b < 16 ∧ (∀ i, bitI x i = true → i < D) ∧ (∀ n, n ≤ D → pps B (sM x) b n → K (some (.int (nI n))) g)
  | _ => False
theorem wf_X0_countParts : sm_wf lay (yX0_countParts, cX0_countParts, 6, (some .int)) 3 false sp_X0_countParts := by
  intro as g K h
  simp only [sp_X0_countParts] at h
  split at h
  · exact ⟨Nat.le_of_ble_eq_true rfl, by simp, rfl, fun _ => by obtain rfl := h.1; exact ⟨46, _, 0, [3, 11, 49, 50, 51, 1], TX0, 6, rfl, rfl, rfl⟩⟩
  · exact h.elim
set_option maxHeartbeats 4000000 in
set_option maxRecDepth 100000 in
theorem b_X0_countParts : sm_body lay NX0_countParts 6 0 (sm_cl []) sp_X0_countParts := by
  intro K J S hW as g hs
  have hn := n_X0_countParts
  have hf := fd_all
  have ha := ar_all
  generalize NX0_countParts = N at hn hW
  generalize lay = L at hf ha hW
  obtain ⟨hS, hR⟩ := hW
  simp only [sp_X0_countParts] at hs
  split at hs
  case h_2 => exact hs.elim
  simp only [e_args, sm_pad, List.length_cons, List.length_nil, Nat.reduceAdd, Nat.reduceSub, List.replicate_succ, List.replicate_zero, List.cons_append, List.nil_append]
  rename_i p x q
  obtain ⟨rfl, D, B, b, hD, eD, hcT, rfl, hb16, hx, hs⟩ := hs
  have loop : ∀ m i, m = D - i → i ≤ D → ∀ n r, n ≤ i → (∀ j, bitI r j = true → bitI x j = true ∧ i ≤ j) → (∀ (T : Nat → Prop) (M : Nat), (∀ y, T y → sM x y) → (∀ y, sM x y → crd (fun z => T z ∧ B z b = B y b) ≤ M) → crd (fun z => T z ∧ ¬ bitI r z = true) ≤ n * M) →
      J 8 [some (.ref 46), some (.int x), some (.int (nI b)), some (.int (nI n)), some (.int r), some (.int (nI i))] [] g := by
    intro m
    induction m with
    | zero =>
      intro i hm hi n r hn2 hr hT
      obtain rfl : i = D := by omega
      have hs := hs n hn2 (fun T M h1 h2 => by
        refine Nat.le_trans (crd_mono (fun z _ hz => ⟨hz, fun h => ?_⟩)) (hT T M h1 h2)
        have := hr z h; have := hx z this.1; omega)
      apply hR 60
      simp (maxSteps := 10000000) (disch := omega) only [hS, hn, sm_eqs, hf, ha, sm_b0, Int.reduceToNat, ↓reduceIte, Nat.reduceEqDiff, true_and, and_true, List.length_nil, List.length_cons, Nat.reduceAdd, Nat.reduceLeDiff, Nat.zero_le, false_implies, true_implies, not_true_eq_false, not_false_eq_true, implies_true, Nat.reduceSub, Nat.reduceMul, Nat.reduceDiv, reduceCtorEq, tn_clamp, nI_t, tn_nI, nI_add, pk_mul, rS_gS, rS_gA, rS_gL, rA_gS, rA_gA, rA_gL, rL_gS, rL_gA, rL_gL, and_self, and_false, false_and, if_true, if_false, true_or, or_true, or_false, false_or, sm_in, eqI, sI_s, Int32.toInt_zero, Int.natCast_zero, Int.natCast_one, Int.cast_ofNat_Int, Int.reduceEq, Int.reduceLT, Int.reduceLE, Int.reduceNeg, Int.reduceNe, ne_eq, n_up, g_up, e_cat, fr_A, fr_O, fr_P, fr_L, eD]
      repeat' (first | (refine And.intro ?_ ?_) | (intro _))
      all_goals (first | with_reducible assumption | omega | (exfalso; omega))
    | succ m ih =>
      intro i hm hi n r hn2 hr hT
      by_cases hz : r.toInt = 0
      · have hs := hs n (by omega) (fun T M h1 h2 => by
          refine Nat.le_trans (crd_mono (fun z hz2 hz3 => ⟨hz3, fun h => ?_⟩)) (hT T M h1 h2)
          rw [bi_zero] at hz
          rw [hz z hz2] at h; cases h)
        clear ih
        apply hR 60
        simp (maxSteps := 10000000) (disch := omega) only [hS, hn, sm_eqs, hf, ha, sm_b0, Int.reduceToNat, ↓reduceIte, Nat.reduceEqDiff, true_and, and_true, List.length_nil, List.length_cons, Nat.reduceAdd, Nat.reduceLeDiff, Nat.zero_le, false_implies, true_implies, not_true_eq_false, not_false_eq_true, implies_true, Nat.reduceSub, Nat.reduceMul, Nat.reduceDiv, reduceCtorEq, tn_clamp, nI_t, tn_nI, nI_add, pk_mul, rS_gS, rS_gA, rS_gL, rA_gS, rA_gA, rA_gL, rL_gS, rL_gA, rL_gL, and_self, and_false, false_and, if_true, if_false, true_or, or_true, or_false, false_or, sm_in, eqI, sI_s, Int32.toInt_zero, Int.natCast_zero, Int.natCast_one, Int.cast_ofNat_Int, Int.reduceEq, Int.reduceLT, Int.reduceLE, Int.reduceNeg, Int.reduceNe, ne_eq, n_up, g_up, e_cat, fr_A, fr_O, fr_P, fr_L, eD, hz]
        clear hn hf ha hS hR
        repeat' (first | (refine And.intro ?_ ?_) | (intro _))
        all_goals (first | with_reducible assumption | omega | (exfalso; omega))
      · cases hb : bitI r i with
        | false =>
          have ih := ih (i + 1) (by omega) (by omega) n r (by omega) (fun j hj => ⟨(hr j hj).1, by
            have := (hr j hj).2
            by_cases e : j = i
            · rw [e, hb] at hj; cases hj
            · omega⟩) hT
          clear hs
          apply hR 60
          simp (maxSteps := 10000000) (disch := omega) only [hS, hn, sm_eqs, hf, ha, sm_b0, Int.reduceToNat, ↓reduceIte, Nat.reduceEqDiff, true_and, and_true, List.length_nil, List.length_cons, Nat.reduceAdd, Nat.reduceLeDiff, Nat.zero_le, false_implies, true_implies, not_true_eq_false, not_false_eq_true, implies_true, Nat.reduceSub, Nat.reduceMul, Nat.reduceDiv, reduceCtorEq, tn_clamp, nI_t, tn_nI, nI_add, pk_mul, rS_gS, rS_gA, rS_gL, rA_gS, rA_gA, rA_gL, rL_gS, rL_gA, rL_gL, and_self, and_false, false_and, if_true, if_false, true_or, or_true, or_false, false_or, sm_in, eqI, sI_s, Int32.toInt_zero, Int.natCast_zero, Int.natCast_one, Int.cast_ofNat_Int, Int.reduceEq, Int.reduceLT, Int.reduceLE, Int.reduceNeg, Int.reduceNe, ne_eq, n_up, g_up, e_cat, fr_A, fr_O, fr_P, fr_L, eD, hz, bi_and, hb]
          clear hn hf ha hS hR
          repeat' (first | (refine And.intro ?_ ?_) | (intro _))
          all_goals (first | with_reducible assumption | omega | (exfalso; omega))
        | true =>
          have hc := hcT b i hb16 (by omega)
          have hbits : ∀ j, bitI (r &&& (rA g 48 (b * 12 + i) ^^^ sI 0)) j = true ↔ (bitI r j = true ∧ ¬ (j < D ∧ B j b = B i b)) := fun j => by
            by_cases h32 : j < 32
            · rw [bi_land, bi_not h32, Bool.and_eq_true, Bool.not_eq_true', ← Bool.not_eq_true, hc j]
            · have h1 : ∀ y : Int32, bitI y j = false := fun y => BitVec.getLsbD_of_ge _ _ (by omega)
              rw [h1, h1]
              exact ⟨fun h => absurd h (by decide), fun h => absurd h.1 (by decide)⟩
          have ih := ih (i + 1) (by omega) (by omega) (n + 1) _ (by omega) (fun j hj => by
            rw [hbits] at hj
            have h1 := hr j hj.1
            refine ⟨h1.1, ?_⟩
            by_cases e : j = i
            · exact absurd ⟨by omega, by rw [e]⟩ hj.2
            · omega) (fun T M h1 h2 => by
            have q1 := hT T M h1 h2
            have q2 := h2 i (hr i hb).1
            have q3 := crd_or (fun z => T z ∧ ¬ bitI r z = true) (fun z => T z ∧ B z b = B i b)
            have q4 : crd (fun z => T z ∧ ¬ bitI (r &&& (rA g 48 (b * 12 + i) ^^^ sI 0)) z = true) ≤ crd (fun z => (T z ∧ ¬ bitI r z = true) ∨ (T z ∧ B z b = B i b)) := crd_mono (fun z _ hz => by
              by_cases e : bitI r z = true
              · refine Or.inr ⟨hz.1, Classical.byContradiction (fun h => hz.2 ((hbits z).mpr ⟨e, fun h9 => h h9.2⟩))⟩
              · exact Or.inl ⟨hz.1, e⟩)
            have q5 : (n + 1) * M = n * M + M := Nat.succ_mul n M
            omega)
          clear hs hT
          apply hR 60
          simp (maxSteps := 10000000) (disch := omega) only [hS, hn, sm_eqs, hf, ha, sm_b0, Int.reduceToNat, ↓reduceIte, Nat.reduceEqDiff, true_and, and_true, List.length_nil, List.length_cons, Nat.reduceAdd, Nat.reduceLeDiff, Nat.zero_le, false_implies, true_implies, not_true_eq_false, not_false_eq_true, implies_true, Nat.reduceSub, Nat.reduceMul, Nat.reduceDiv, reduceCtorEq, tn_clamp, nI_t, tn_nI, nI_add, pk_mul, rS_gS, rS_gA, rS_gL, rA_gS, rA_gA, rA_gL, rL_gS, rL_gA, rL_gL, and_self, and_false, false_and, if_true, if_false, true_or, or_true, or_false, false_or, sm_in, eqI, sI_s, Int32.toInt_zero, Int.natCast_zero, Int.natCast_one, Int.cast_ofNat_Int, Int.reduceEq, Int.reduceLT, Int.reduceLE, Int.reduceNeg, Int.reduceNe, ne_eq, n_up, g_up, e_cat, fr_A, fr_O, fr_P, fr_L, eD, hz, bi_and, hb]
          clear hn hf ha hS hR
          repeat' (first | (refine And.intro ?_ ?_) | (intro _))
          all_goals (first | with_reducible assumption | omega | (exfalso; omega))
  have h0 := loop _ 0 rfl (Nat.zero_le _) 0 x (Nat.le_refl _) (fun j hj => ⟨hj, Nat.zero_le _⟩) (fun T M h1 _ => by
    have : crd (fun z => T z ∧ ¬ bitI x z = true) = 0 := cnt_none 32 (fun z _ => dc_f.mpr (fun h => h.2 (h1 z h.1)))
    rw [this]; exact Nat.zero_le _)
  clear hs loop
  apply hR 40
  simp (maxSteps := 10000000) (disch := omega) only [hS, hn, sm_eqs, hf, ha, sm_b0, Int.reduceToNat, ↓reduceIte, Nat.reduceEqDiff, true_and, and_true, List.length_nil, List.length_cons, Nat.reduceAdd, Nat.reduceLeDiff, Nat.zero_le, false_implies, true_implies, not_true_eq_false, not_false_eq_true, implies_true, Nat.reduceSub, Nat.reduceMul, Nat.reduceDiv, reduceCtorEq, tn_clamp, nI_t, tn_nI, nI_add, pk_mul, rS_gS, rS_gA, rS_gL, rA_gS, rA_gA, rA_gL, rL_gS, rL_gA, rL_gL, and_self, and_false, false_and, if_true, if_false, true_or, or_true, or_false, false_or, sm_in, eqI, sI_s, Int32.toInt_zero, Int.natCast_zero, Int.natCast_one, Int.cast_ofNat_Int, Int.reduceEq, Int.reduceLT, Int.reduceLE, Int.reduceNeg, Int.reduceNe, ne_eq, n_up, g_up, e_cat, fr_A, fr_O, fr_P, fr_L]
  exact h0
theorem ok_X0_countParts (l : Launch) : sm_spok l lay sm_mt 1 13 sp_X0_countParts := Or.inr (Or.inr (Or.inr ⟨by decide, by decide, by
  rw [mt_13]
  exact sm_method (T := TX0_) v_cok v_lok v_ka v_tok_X0 mok_X0_countParts rfl (by unfold sm_rk; simp) wf_X0_countParts (fun _ h => absurd h List.not_mem_nil) b_X0_countParts⟩))
def sp_X0_lowerBound : sm_SP := fun as g K => match as with
  | [.ref p, .int x, .int s] => p = 46 ∧ ∃ (D : Nat) (B : Nat → Nat → Int) (n : Nat), D ≤ 12 ∧ rS g 46 5 = nI D ∧ cT g D B ∧ (∀ i, bitI x i = true → i < D) ∧ s = nI n ∧ n ≤ 12 ∧ (∀ b w, b ≤ 12 → 1 ≤ w → (∀ q, q < 16 → ∃ m, m ≤ w ∧ pps B (sM x) q m) → (∀ j, j < b → w ^ j < n) → K (some (.int (nI b))) g)
  | _ => False
theorem wf_X0_lowerBound : sm_wf lay (yX0_lowerBound, cX0_lowerBound, 6, (some .int)) 3 false sp_X0_lowerBound := by
  intro as g K h
  simp only [sp_X0_lowerBound] at h
  split at h
  · exact ⟨Nat.le_of_ble_eq_true rfl, by simp, rfl, fun _ => by obtain rfl := h.1; exact ⟨46, _, 0, [3, 11, 49, 50, 51, 1], TX0, 6, rfl, rfl, rfl⟩⟩
  · exact h.elim
set_option maxHeartbeats 4000000 in
set_option maxRecDepth 100000 in
theorem b_X0_lowerBound : sm_body lay NX0_lowerBound 6 0 (sm_cl [(13, sp_X0_countParts), (228, sp_max)]) sp_X0_lowerBound := by
  intro K J S hW as g hs
  have hn := n_X0_lowerBound
  have hf := fd_all
  have ha := ar_all
  generalize NX0_lowerBound = N at hn hW
  generalize lay = L at hf ha hW
  obtain ⟨hS, hR⟩ := hW
  simp only [sp_X0_lowerBound] at hs
  split at hs
  case h_2 => exact hs.elim
  simp only [e_args, sm_pad, List.length_cons, List.length_nil, Nat.reduceAdd, Nat.reduceSub, List.replicate_succ, List.replicate_zero, List.cons_append, List.nil_append]
  rename_i p x s
  obtain ⟨rfl, D, B, n, hD, eD, hcT, hx, rfl, hn12, hs⟩ := hs
  have l2 : ∀ w, 2 ≤ w → w ≤ 12 → (∀ q, q < 16 → ∃ m, m ≤ w ∧ pps B (sM x) q m) → ∀ m b, m = 12 - b → b ≤ 12 → ∀ P, P = w ^ b → P ≤ 144 → (∀ j, j < b → w ^ j < n) → J 36 [some (.ref 46), some (.int x), some (.int (nI n)), some (.int (nI w)), some (.int (nI b)), some (.int (nI P))] [] g := by
    intro w hw1 hw2 hpw m
    induction m with
    | zero =>
      intro b hm hb P hP hP2 hj
      obtain rfl : b = 12 := by omega
      have hs := hs 12 w (Nat.le_refl _) (by omega) hpw hj
      apply hR 60
      simp (maxSteps := 10000000) (disch := omega) only [hS, hn, sm_eqs, hf, ha, sm_b0, Int.reduceToNat, ↓reduceIte, Nat.reduceEqDiff, true_and, and_true, List.length_nil, List.length_cons, Nat.reduceAdd, Nat.reduceLeDiff, Nat.zero_le, false_implies, true_implies, not_true_eq_false, not_false_eq_true, implies_true, Nat.reduceSub, Nat.reduceMul, Nat.reduceDiv, reduceCtorEq, tn_clamp, nI_t, tn_nI, nI_add, pk_mul, rS_gS, rS_gA, rS_gL, rA_gS, rA_gA, rA_gL, rL_gS, rL_gA, rL_gL, and_self, and_false, false_and, if_true, if_false, true_or, or_true, or_false, false_or, sm_in, eqI, sI_s, Int32.toInt_zero, Int.natCast_zero, Int.natCast_one, Int.cast_ofNat_Int, Int.reduceEq, Int.reduceLT, Int.reduceLE, Int.reduceNeg, Int.reduceNe, ne_eq, n_up, g_up, e_cat, fr_A, fr_O, fr_P, fr_L, sp_X0_countParts, sp_max]
      repeat' (first | (refine And.intro ?_ ?_) | (intro _))
      all_goals (first | with_reducible assumption | omega | (exfalso; omega))
    | succ m ih =>
      intro b hm hb P hP hP2 hj
      by_cases hlt : P < n
      · have hm2 : P * w ≤ 12 * 12 := Nat.mul_le_mul (by omega) hw2
        have ih := ih (b + 1) (by omega) (by omega) (P * w) (by rw [hP, Nat.pow_succ]) (by omega) (fun j hj2 => by
          by_cases e : j = b
          · rw [e, ← hP]; exact hlt
          · exact hj j (by omega))
        clear hs
        apply hR 60
        simp (maxSteps := 10000000) (disch := omega) only [hS, hn, sm_eqs, hf, ha, sm_b0, Int.reduceToNat, ↓reduceIte, Nat.reduceEqDiff, true_and, and_true, List.length_nil, List.length_cons, Nat.reduceAdd, Nat.reduceLeDiff, Nat.zero_le, false_implies, true_implies, not_true_eq_false, not_false_eq_true, implies_true, Nat.reduceSub, Nat.reduceMul, Nat.reduceDiv, reduceCtorEq, tn_clamp, nI_t, tn_nI, nI_add, pk_mul, rS_gS, rS_gA, rS_gL, rA_gS, rA_gA, rA_gL, rL_gS, rL_gA, rL_gL, and_self, and_false, false_and, if_true, if_false, true_or, or_true, or_false, false_or, sm_in, eqI, sI_s, Int32.toInt_zero, Int.natCast_zero, Int.natCast_one, Int.cast_ofNat_Int, Int.reduceEq, Int.reduceLT, Int.reduceLE, Int.reduceNeg, Int.reduceNe, ne_eq, n_up, g_up, e_cat, fr_A, fr_O, fr_P, fr_L, sp_X0_countParts, sp_max]
        clear hn hf ha hS hR
        repeat' (first | (refine And.intro ?_ ?_) | (intro _))
        all_goals (first | with_reducible assumption | omega | (exfalso; omega))
      · have hs := hs b w (by omega) (by omega) hpw hj
        clear ih
        apply hR 60
        simp (maxSteps := 10000000) (disch := omega) only [hS, hn, sm_eqs, hf, ha, sm_b0, Int.reduceToNat, ↓reduceIte, Nat.reduceEqDiff, true_and, and_true, List.length_nil, List.length_cons, Nat.reduceAdd, Nat.reduceLeDiff, Nat.zero_le, false_implies, true_implies, not_true_eq_false, not_false_eq_true, implies_true, Nat.reduceSub, Nat.reduceMul, Nat.reduceDiv, reduceCtorEq, tn_clamp, nI_t, tn_nI, nI_add, pk_mul, rS_gS, rS_gA, rS_gL, rA_gS, rA_gA, rA_gL, rL_gS, rL_gA, rL_gL, and_self, and_false, false_and, if_true, if_false, true_or, or_true, or_false, false_or, sm_in, eqI, sI_s, Int32.toInt_zero, Int.natCast_zero, Int.natCast_one, Int.cast_ofNat_Int, Int.reduceEq, Int.reduceLT, Int.reduceLE, Int.reduceNeg, Int.reduceNe, ne_eq, n_up, g_up, e_cat, fr_A, fr_O, fr_P, fr_L, sp_X0_countParts, sp_max]
        clear hn hf ha hS hR
        repeat' (first | (refine And.intro ?_ ?_) | (intro _))
        all_goals (first | with_reducible assumption | omega | (exfalso; omega))
  have l1 : ∀ m q, m = 16 - q → q ≤ 16 → ∀ w, 2 ≤ w → w ≤ 12 → (∀ u, u < q → ∃ m, m ≤ w ∧ pps B (sM x) u m) → J 5 [some (.ref 46), some (.int x), some (.int (nI n)), some (.int (nI w)), some (.int (nI q)), none] [] g := by
    intro m
    induction m with
    | zero =>
      intro q hm hq w hw1 hw2 hu
      obtain rfl : q = 16 := by omega
      have h0 := l2 w hw1 hw2 hu _ 0 rfl (Nat.zero_le _) 1 (Nat.pow_zero _).symm (by omega) (fun j h => by omega)
      clear hs l2
      apply hR 60
      simp (maxSteps := 10000000) (disch := omega) only [hS, hn, sm_eqs, hf, ha, sm_b0, Int.reduceToNat, ↓reduceIte, Nat.reduceEqDiff, true_and, and_true, List.length_nil, List.length_cons, Nat.reduceAdd, Nat.reduceLeDiff, Nat.zero_le, false_implies, true_implies, not_true_eq_false, not_false_eq_true, implies_true, Nat.reduceSub, Nat.reduceMul, Nat.reduceDiv, reduceCtorEq, tn_clamp, nI_t, tn_nI, nI_add, pk_mul, rS_gS, rS_gA, rS_gL, rA_gS, rA_gA, rA_gL, rL_gS, rL_gA, rL_gL, and_self, and_false, false_and, if_true, if_false, true_or, or_true, or_false, false_or, sm_in, eqI, sI_s, Int32.toInt_zero, Int.natCast_zero, Int.natCast_one, Int.cast_ofNat_Int, Int.reduceEq, Int.reduceLT, Int.reduceLE, Int.reduceNeg, Int.reduceNe, ne_eq, n_up, g_up, e_cat, fr_A, fr_O, fr_P, fr_L, sp_X0_countParts, sp_max]
      repeat' (first | (refine And.intro ?_ ?_) | (intro _))
      all_goals (first | with_reducible assumption | omega | (exfalso; omega))
    | succ m ih =>
      intro q hm hq w hw1 hw2 hu
      have ih := ih (q + 1) (by omega) (by omega)
      clear hs l2
      apply hR 60
      simp (maxSteps := 10000000) (disch := omega) only [hS, hn, sm_eqs, hf, ha, sm_b0, Int.reduceToNat, ↓reduceIte, Nat.reduceEqDiff, true_and, and_true, List.length_nil, List.length_cons, Nat.reduceAdd, Nat.reduceLeDiff, Nat.zero_le, false_implies, true_implies, not_true_eq_false, not_false_eq_true, implies_true, Nat.reduceSub, Nat.reduceMul, Nat.reduceDiv, reduceCtorEq, tn_clamp, nI_t, tn_nI, nI_add, pk_mul, rS_gS, rS_gA, rS_gL, rA_gS, rA_gA, rA_gL, rL_gS, rL_gA, rL_gL, and_self, and_false, false_and, if_true, if_false, true_or, or_true, or_false, false_or, sm_in, eqI, sI_s, Int32.toInt_zero, Int.natCast_zero, Int.natCast_one, Int.cast_ofNat_Int, Int.reduceEq, Int.reduceLT, Int.reduceLE, Int.reduceNeg, Int.reduceNe, ne_eq, n_up, g_up, e_cat, fr_A, fr_O, fr_P, fr_L, sp_X0_countParts, sp_max, sp_max]
      clear hn hf ha hS hR
      refine ⟨fun _ => ⟨D, B, q, hD, by rw [eD], hcT, (nI_t (by omega)).symm, by omega, hx, fun k hk hp => ⟨fun h => ?_, fun h => ?_⟩⟩, fun h => absurd h (by omega)⟩
      · rw [nI_t (by omega)] at h
        exact ih k (by omega) (by omega) (fun u hu2 => by
          by_cases e : u = q
          · rw [e]; exact ⟨k, Nat.le_refl _, hp⟩
          · obtain ⟨m, h1, h2⟩ := hu u (by omega)
            exact ⟨m, by omega, h2⟩)
      · rw [nI_t (by omega)] at h
        exact ih w hw1 hw2 (fun u hu2 => by
          by_cases e : u = q
          · rw [e]; exact ⟨k, by omega, hp⟩
          · exact hu u (by omega))
  have h0 := l1 _ 0 rfl (Nat.zero_le _) 2 (Nat.le_refl _) (by omega) (fun u h => by omega)
  clear hs l1 l2
  apply hR 40
  simp (maxSteps := 10000000) (disch := omega) only [hS, hn, sm_eqs, hf, ha, sm_b0, Int.reduceToNat, ↓reduceIte, Nat.reduceEqDiff, true_and, and_true, List.length_nil, List.length_cons, Nat.reduceAdd, Nat.reduceLeDiff, Nat.zero_le, false_implies, true_implies, not_true_eq_false, not_false_eq_true, implies_true, Nat.reduceSub, Nat.reduceMul, Nat.reduceDiv, reduceCtorEq, tn_clamp, nI_t, tn_nI, nI_add, pk_mul, rS_gS, rS_gA, rS_gL, rA_gS, rA_gA, rA_gL, rL_gS, rL_gA, rL_gL, and_self, and_false, false_and, if_true, if_false, true_or, or_true, or_false, false_or, sm_in, eqI, sI_s, Int32.toInt_zero, Int.natCast_zero, Int.natCast_one, Int.cast_ofNat_Int, Int.reduceEq, Int.reduceLT, Int.reduceLE, Int.reduceNeg, Int.reduceNe, ne_eq, n_up, g_up, e_cat, fr_A, fr_O, fr_P, fr_L, sp_X0_countParts, sp_max]
  exact h0
theorem ok_X0_lowerBound (l : Launch) : sm_spok l lay sm_mt 2 12 sp_X0_lowerBound := Or.inr (Or.inr (Or.inr ⟨by decide, by decide, by
  rw [mt_12]
  exact sm_method (T := TX0_) v_cok v_lok v_ka v_tok_X0 mok_X0_lowerBound rfl (by unfold sm_rk; simp) wf_X0_lowerBound (List.forall_mem_cons.mpr ⟨sm_spok_up (Nat.le_of_ble_eq_true rfl : 1 ≤ 1) (ok_X0_countParts l), List.forall_mem_cons.mpr ⟨Or.inr (Or.inl ⟨rfl, rfl⟩), fun _ h => absurd h List.not_mem_nil⟩⟩) b_X0_lowerBound⟩))
/-- what is known so far of the sets: nothing, or just what is needed -/
def fI (D : Nat) (B : Nat → Nat → Int) (fd : Nat → Int32) : Prop := ∀ m, m < 2 ^ D → fd m = nI 0 ∨ ∃ k, 1 ≤ k ∧ k ≤ 12 ∧ fd m = nI k ∧ isNd B 16 k (sM (nI m))
/-- no two are like -/
def dis (D : Nat) (B : Nat → Nat → Int) : Prop := ∀ x y, x < D → y < D → (∀ q, q < 16 → B x q = B y q) → x = y
theorem sub16 {m q : Nat} (h : m + 1 = 16 - q) (hq : q ≤ 16) : m = 16 - (q + 1) ∧ q + 1 ≤ 16 := by omega
theorem nd_done {D : Nat} {B : Nat → Nat → Int} {S : Nat → Prop} {n v b w : Nat} (hD : D ≤ 12) (hd : dis D B) (hb : ∀ x, S x → x < D) (hn : crd S = n) (h2n : 2 ≤ n) (hw : 1 ≤ w) (hp : ∀ q, q < 16 → ∃ m, m ≤ w ∧ pps B S q m) (hj : ∀ j, j < b → w ^ j < n)
    (hv : v ≤ n) (hv1 : 1 ≤ v) (hq : v < n → ∃ q, q < 16 ∧ nq B 16 (v - 1) S q) (he : v ≤ b ∨ ∀ q, q < 16 → prt B S q → ∀ k, k + 1 < v → ¬ nq B 16 k S q) : isNd B 16 v S ∧ v < n := by
  have hb32 : ∀ x, S x → x < 32 := fun x hx => by have := hb x hx; omega
  have low : ∀ j, nd B 16 j S → n ≤ w ^ j := fun j h => by
    have := nd_lower (S := S) (w := w) hb32 (fun x y hx hy h => hd x y (hb x hx) (hb y hy) h) hw hp (T := S) (fun x h => h) h
    rw [hn] at this; exact this
  have n0 : ¬ nd B 16 0 S := fun h => by have := low 0 h; rw [Nat.pow_zero] at this; omega
  have up : nd B 16 (n - 1) S := nd_upper hb32 (by omega)
  have hne : ∃ x, S x := by
    refine Classical.byContradiction (fun h => ?_)
    have : crd S = 0 := cnt_none 32 (fun i _ => dc_f.mpr (fun hi => h ⟨i, hi⟩))
    omega
  have bn : b ≤ n - 1 := by
    refine Classical.byContradiction (fun h => ?_)
    have h1 := hj (n - 1) (by omega)
    have h2 := low (n - 1) up
    omega
  have hlt : v < n := by
    rcases he with h | h
    · omega
    · refine Classical.byContradiction (fun hc => ?_)
      exact nd_min n0 hne h (n - 1) (by omega) up
  obtain ⟨q, hq16, hnq⟩ := hq hlt
  have hnd : nd B 16 v S := by
    rw [show v = v - 1 + 1 by omega]
    exact Or.inr ⟨q, hq16, hnq⟩
  refine ⟨⟨hnd, fun j hj2 hx => ?_⟩, hlt⟩
  rcases he with h | h
  · have h1 := hj j (by omega)
    have h2 := low j hx
    omega
  · exact nd_min n0 hne h j hj2 hx
theorem fr_cT (g : sm_G) (fd : Nat → Int32) (D : Nat) (B : Nat → Nat → Int) : cT (gA g 49 fd) D B = cT g D B := rfl
def sp_X0_neededBehind (n : Nat) : sm_SP := fun as g K => match as with
  | [.ref p, .int x, .int q, .int l, .int dp] => p = 46 ∧ ∃ (D : Nat) (B : Nat → Nat → Int) (b li d : Nat), D ≤ 12 ∧ rS g 46 5 = nI D ∧ cT g D B ∧ dis D B ∧ (∀ i, bitI x i = true → i < D) ∧ q = nI b ∧ b < 16 ∧ l = nI li ∧ 1 ≤ li ∧ li ≤ 12 ∧ dp = nI d ∧ d + n ≤ 12 ∧ 2 ≤ crd (sM x) ∧ crd (sM x) ≤ n ∧ fI D B (rA g 49) ∧
      (∀ fd r, fI D B fd → r ≤ li → (r < li → 1 ≤ r ∧ nq B 16 (r - 1) (sM x) b) → (prt B (sM x) b → ∀ k, k + 1 < r → ¬ nq B 16 k (sM x) b) → K (some (.int (nI r))) (gA g 49 fd))
  | _ => False
def sp_X0_search (n : Nat) : sm_SP := fun as g K => match as with
  | [.ref p, .int x, .int dp] => p = 46 ∧ ∃ (D : Nat) (B : Nat → Nat → Int) (d : Nat), D ≤ 12 ∧ rS g 46 5 = nI D ∧ cT g D B ∧ dis D B ∧ (∀ i, bitI x i = true → i < D) ∧ dp = nI d ∧ d + n ≤ 12 ∧ crd (sM x) ≤ n ∧ fI D B (rA g 49) ∧
      (∀ fd k, fI D B fd → k ≤ 12 → isNd B 16 k (sM x) → K (some (.int (nI k))) (gA g 49 fd))
  | _ => False
theorem wf_X0_neededBehind (n : Nat) : sm_wf lay (yX0_neededBehind, cX0_neededBehind, 9, (some .int)) 5 false (sp_X0_neededBehind n) := by
  intro as g K h
  simp only [sp_X0_neededBehind] at h
  split at h
  · exact ⟨Nat.le_of_ble_eq_true rfl, by simp, rfl, fun _ => by obtain rfl := h.1; exact ⟨46, _, 0, [3, 11, 49, 50, 51, 1], TX0, 6, rfl, rfl, rfl⟩⟩
  · exact h.elim
set_option maxHeartbeats 4000000 in
set_option maxRecDepth 100000 in
theorem b_X0_neededBehind (n : Nat) : sm_body lay NX0_neededBehind 9 0 (sm_cl [(10, sp_X0_search (n - 1)), (228, sp_max)]) (sp_X0_neededBehind n) := by
  intro K J S hW as g hs
  have hn := n_X0_neededBehind
  have hf := fd_all
  have ha := ar_all
  generalize NX0_neededBehind = N at hn hW
  generalize lay = L at hf ha hW
  obtain ⟨hS, hR⟩ := hW
  simp only [sp_X0_neededBehind] at hs
  split at hs
  case h_2 => exact hs.elim
  simp only [e_args, sm_pad, List.length_cons, List.length_nil, Nat.reduceAdd, Nat.reduceSub, List.replicate_succ, List.replicate_zero, List.cons_append, List.nil_append]
  rename_i p x q l dp
  obtain ⟨rfl, D, B, b, li, d, hD, eD, hcT, hdis, hx, rfl, hb16, rfl, hl1, hl12, rfl, hdn, h2, hxn, hfI, hs⟩ := hs
  have hx32 : ∀ y, sM x y → y < 32 := fun y hy => by have := hx y hy; omega
  have exit : ∀ v r fd, v < li → fI D B fd → (∀ y, sM x y → ¬ bitI r y = true → 1 ≤ v ∧ nd B 16 (v - 1) (fun z => sM x z ∧ B z b = B y b)) → (∀ k, k + 1 < v → ∃ y, sM x y ∧ ¬ nd B 16 k (fun z => sM x z ∧ B z b = B y b)) → (∀ j, bitI r j = false) → K (some (.int (nI v))) (gA g 49 fd) := by
    intro v r fd hv hfd hA1 hA2 hz
    refine hs fd v hfd (by omega) (fun _ => ⟨?_, fun y hy => ?_⟩) (fun _ k hk hq => ?_)
    · have : ∃ y, sM x y := by
        refine Classical.byContradiction (fun h => ?_)
        have : crd (sM x) = 0 := cnt_none 32 (fun i _ => dc_f.mpr (fun hi => h ⟨i, hi⟩))
        omega
      obtain ⟨y, hy⟩ := this
      exact (hA1 y hy (by rw [hz y]; decide)).1
    · exact (hA1 y hy (by rw [hz y]; decide)).2
    · obtain ⟨y, hy, hn9⟩ := hA2 k hk
      exact hn9 (hq y hy)
  have loop : ∀ m i, m = D - i → i ≤ D → ∀ v r fd v8, v < li → fI D B fd → (∀ j, bitI r j = true → bitI x j = true ∧ i ≤ j) → (∀ y z, sM x y → sM x z → B y b = B z b → bitI r y = true → bitI r z = true) →
      (∀ y, sM x y → ¬ bitI r y = true → 1 ≤ v ∧ nd B 16 (v - 1) (fun z => sM x z ∧ B z b = B y b)) → (∀ k, k + 1 < v → ∃ y, sM x y ∧ ¬ nd B 16 k (fun z => sM x z ∧ B z b = B y b)) →
      J 9 [some (.ref 46), some (.int x), some (.int (nI b)), some (.int (nI li)), some (.int (nI d)), some (.int (nI v)), some (.int r), some (.int (nI i)), v8] [] (gA g 49 fd) := by
    intro m
    induction m with
    | zero =>
      intro i hm hi v r fd v8 hv hfd hr hcl hA1 hA2
      obtain rfl : i = D := by omega
      have hs := exit v r fd hv hfd hA1 hA2 (fun j => by
        cases hb : bitI r j with
        | false => rfl
        | true => have := hr j hb; have := hx j this.1; omega)
      apply hR 60
      simp (maxSteps := 10000000) (disch := omega) only [hS, hn, sm_eqs, hf, ha, sm_b0, Int.reduceToNat, ↓reduceIte, Nat.reduceEqDiff, true_and, and_true, List.length_nil, List.length_cons, Nat.reduceAdd, Nat.reduceLeDiff, Nat.zero_le, false_implies, true_implies, not_true_eq_false, not_false_eq_true, implies_true, Nat.reduceSub, Nat.reduceMul, Nat.reduceDiv, reduceCtorEq, tn_clamp, nI_t, tn_nI, nI_add, pk_mul, rS_gS, rS_gA, rS_gL, rA_gS, rA_gA, rA_gL, rL_gS, rL_gA, rL_gL, and_self, and_false, false_and, if_true, if_false, true_or, or_true, or_false, false_or, sm_in, eqI, sI_s, Int32.toInt_zero, Int.natCast_zero, Int.natCast_one, Int.cast_ofNat_Int, Int.reduceEq, Int.reduceLT, Int.reduceLE, Int.reduceNeg, Int.reduceNe, ne_eq, n_up, g_up, e_cat, fr_A, fr_O, fr_P, fr_L, sp_X0_search, sp_max, eD]
      repeat' (first | (refine And.intro ?_ ?_) | (intro _))
      all_goals (first | with_reducible assumption | omega | (exfalso; omega))
    | succ m ih =>
      intro i hm hi v r fd v8 hv hfd hr hcl hA1 hA2
      by_cases hz : r.toInt = 0
      · have hs := exit v r fd hv hfd hA1 hA2 (fun j => by
          rw [bi_zero] at hz
          by_cases h32 : j < 32
          · exact hz j h32
          · exact BitVec.getLsbD_of_ge _ _ (by omega))
        clear ih
        apply hR 60
        simp (maxSteps := 10000000) (disch := omega) only [hS, hn, sm_eqs, hf, ha, sm_b0, Int.reduceToNat, ↓reduceIte, Nat.reduceEqDiff, true_and, and_true, List.length_nil, List.length_cons, Nat.reduceAdd, Nat.reduceLeDiff, Nat.zero_le, false_implies, true_implies, not_true_eq_false, not_false_eq_true, implies_true, Nat.reduceSub, Nat.reduceMul, Nat.reduceDiv, reduceCtorEq, tn_clamp, nI_t, tn_nI, nI_add, pk_mul, rS_gS, rS_gA, rS_gL, rA_gS, rA_gA, rA_gL, rL_gS, rL_gA, rL_gL, and_self, and_false, false_and, if_true, if_false, true_or, or_true, or_false, false_or, sm_in, eqI, sI_s, Int32.toInt_zero, Int.natCast_zero, Int.natCast_one, Int.cast_ofNat_Int, Int.reduceEq, Int.reduceLT, Int.reduceLE, Int.reduceNeg, Int.reduceNe, ne_eq, n_up, g_up, e_cat, fr_A, fr_O, fr_P, fr_L, sp_X0_search, sp_max, eD, hz]
        clear hn hf ha hS hR
        repeat' (first | (refine And.intro ?_ ?_) | (intro _))
        all_goals (first | with_reducible assumption | omega | (exfalso; omega))
      · cases hb : bitI r i with
        | false =>
          have ih := ih (i + 1) (by omega) (by omega) v r fd v8 hv hfd (fun j hj => ⟨(hr j hj).1, by
            have := (hr j hj).2
            by_cases e : j = i
            · rw [e, hb] at hj; cases hj
            · omega⟩) hcl hA1 hA2
          clear hs exit
          apply hR 60
          simp (maxSteps := 10000000) (disch := omega) only [hS, hn, sm_eqs, hf, ha, sm_b0, Int.reduceToNat, ↓reduceIte, Nat.reduceEqDiff, true_and, and_true, List.length_nil, List.length_cons, Nat.reduceAdd, Nat.reduceLeDiff, Nat.zero_le, false_implies, true_implies, not_true_eq_false, not_false_eq_true, implies_true, Nat.reduceSub, Nat.reduceMul, Nat.reduceDiv, reduceCtorEq, tn_clamp, nI_t, tn_nI, nI_add, pk_mul, rS_gS, rS_gA, rS_gL, rA_gS, rA_gA, rA_gL, rL_gS, rL_gA, rL_gL, and_self, and_false, false_and, if_true, if_false, true_or, or_true, or_false, false_or, sm_in, eqI, sI_s, Int32.toInt_zero, Int.natCast_zero, Int.natCast_one, Int.cast_ofNat_Int, Int.reduceEq, Int.reduceLT, Int.reduceLE, Int.reduceNeg, Int.reduceNe, ne_eq, n_up, g_up, e_cat, fr_A, fr_O, fr_P, fr_L, sp_X0_search, sp_max, eD, hz, bi_and, hb]
          clear hn hf ha hS hR
          repeat' (first | (refine And.intro ?_ ?_) | (intro _))
          all_goals (first | with_reducible assumption | omega | (exfalso; omega))
        | true =>
          have hc := hcT b i hb16 (by omega)
          have hxi := (hr i hb).1
          have hpb : ∀ j, bitI (rA g 48 (b * 12 + i) &&& r) j = true ↔ (sM x j ∧ B j b = B i b) := fun j => by
            rw [bi_land, Bool.and_eq_true, hc j]
            constructor
            · rintro ⟨h1, h3⟩; exact ⟨(hr j h3).1, h1.2⟩
            · rintro ⟨h1, h3⟩; exact ⟨⟨hx j h1, h3⟩, hcl i j hxi h1 h3.symm hb⟩
          by_cases hps : rA g 48 (b * 12 + i) &&& r = x
          · have hsl := hs fd li hfd (Nat.le_refl _) (fun h => absurd h (by omega)) (fun ⟨u, w, su, sw, hne⟩ => by
              rw [hps] at hpb
              have q1 := ((hpb u).mp su).2
              have q2 := ((hpb w).mp sw).2
              exact absurd (by rw [q1, q2]) hne)
            clear ih exit hs
            have hps2 : (rA g 48 (b * 12 + i) &&& r).toInt = x.toInt := by rw [hps]
            apply hR 60
            simp (maxSteps := 10000000) (disch := omega) only [hS, hn, sm_eqs, hf, ha, sm_b0, Int.reduceToNat, ↓reduceIte, Nat.reduceEqDiff, true_and, and_true, List.length_nil, List.length_cons, Nat.reduceAdd, Nat.reduceLeDiff, Nat.zero_le, false_implies, true_implies, not_true_eq_false, not_false_eq_true, implies_true, Nat.reduceSub, Nat.reduceMul, Nat.reduceDiv, reduceCtorEq, tn_clamp, nI_t, tn_nI, nI_add, pk_mul, rS_gS, rS_gA, rS_gL, rA_gS, rA_gA, rA_gL, rL_gS, rL_gA, rL_gL, and_self, and_false, false_and, if_true, if_false, true_or, or_true, or_false, false_or, sm_in, eqI, sI_s, Int32.toInt_zero, Int.natCast_zero, Int.natCast_one, Int.cast_ofNat_Int, Int.reduceEq, Int.reduceLT, Int.reduceLE, Int.reduceNeg, Int.reduceNe, ne_eq, n_up, g_up, e_cat, fr_A, fr_O, fr_P, fr_L, sp_X0_search, sp_max, eD, hz, bi_and, hb, hps2]
            clear hn hf ha hS hR
            exact ⟨fun _ => ⟨by omega, hsl⟩, fun h => absurd h (by omega)⟩
          · have hps2 : ¬ (rA g 48 (b * 12 + i) &&& r).toInt = x.toInt := fun h => hps (Int32.toInt_inj.mp h)
            have hprt : prt B (sM x) b := by
              refine Classical.byContradiction (fun h => hps (bi_ext (fun t ht => ?_)))
              cases h1 : bitI x t with
              | true => exact (hpb t).mpr ⟨h1, Classical.byContradiction (fun e => h ⟨t, i, h1, hxi, e⟩)⟩
              | false =>
                cases h3 : bitI (rA g 48 (b * 12 + i) &&& r) t with
                | false => rfl
                | true => have := ((hpb t).mp h3).1; unfold sM at this; rw [h1] at this; cases this
            have hlt := prt_lt hx32 hprt i
            have hcp : crd (sM (rA g 48 (b * 12 + i) &&& r)) ≤ crd (fun z => sM x z ∧ B z b = B i b) := crd_mono (fun z _ hz => (hpb z).mp hz)
            have hpD : ∀ j, bitI (rA g 48 (b * 12 + i) &&& r) j = true → j < D := fun j hj => hx j ((hpb j).mp hj).1
            clear exit
            generalize hP : rA g 48 (b * 12 + i) &&& r = P at *
            apply hR 60
            simp (maxSteps := 10000000) (disch := omega) only [hS, hn, sm_eqs, hf, ha, sm_b0, Int.reduceToNat, ↓reduceIte, Nat.reduceEqDiff, true_and, and_true, List.length_nil, List.length_cons, Nat.reduceAdd, Nat.reduceLeDiff, Nat.zero_le, false_implies, true_implies, not_true_eq_false, not_false_eq_true, implies_true, Nat.reduceSub, Nat.reduceMul, Nat.reduceDiv, reduceCtorEq, tn_clamp, nI_t, tn_nI, nI_add, pk_mul, rS_gS, rS_gA, rS_gL, rA_gS, rA_gA, rA_gL, rL_gS, rL_gA, rL_gL, and_self, and_false, false_and, if_true, if_false, true_or, or_true, or_false, false_or, sm_in, eqI, sI_s, Int32.toInt_zero, Int.natCast_zero, Int.natCast_one, Int.cast_ofNat_Int, Int.reduceEq, Int.reduceLT, Int.reduceLE, Int.reduceNeg, Int.reduceNe, ne_eq, n_up, g_up, e_cat, fr_A, fr_O, fr_P, fr_L, sp_X0_search, sp_max, eD, hz, bi_and, hb, hP, hps2, sp_max, fr_cT]
            clear hn hf ha hS hR
            refine ⟨fun _ => ⟨by omega, D, B, d + 1, hD, (nI_t (by omega)).symm, hcT, hdis, hpD, (nI_t (by omega)).symm, by omega, by omega, hfd, fun fd2 k h1 hk12 hk => ?_⟩, fun h => absurd h (by omega)⟩
            have hcls : isNd B 16 k (fun z => sM x z ∧ B z b = B i b) := isNd_rep (fun z => z) (fun z => z) (fun z hz => ⟨(hpb z).mpr hz, fun _ _ => rfl⟩) (fun z hz => ⟨(hpb z).mp hz, fun _ _ => rfl⟩) hk
            have hbits : ∀ j, bitI (r &&& (P ^^^ sI 0)) j = true ↔ (bitI r j = true ∧ ¬ (sM x j ∧ B j b = B i b)) := fun j => by
              by_cases h32 : j < 32
              · rw [bi_land, bi_not h32, Bool.and_eq_true, Bool.not_eq_true', ← Bool.not_eq_true, hpb j]
              · have h1 : ∀ y : Int32, bitI y j = false := fun y => BitVec.getLsbD_of_ge _ _ (by omega)
                rw [h1, h1]
                exact ⟨fun h => absurd h (by decide), fun h => absurd h.1 (by decide)⟩
            have step : ∀ w, (w = v ∧ 1 + k ≤ v ∨ w = 1 + k ∧ v ≤ 1 + k) → w < li → _ := fun w hw hwl => ih (i + 1) (by omega) (by omega) w (r &&& (P ^^^ sI 0)) fd2 (some (.int P)) hwl h1 (fun j hj => by
                rw [hbits] at hj
                have h3 := hr j hj.1
                refine ⟨h3.1, ?_⟩
                by_cases e : j = i
                · exact absurd ⟨h3.1, by rw [e]⟩ hj.2
                · omega) (fun y z hy hz2 hyz hry => by
                rw [hbits] at hry ⊢
                exact ⟨hcl y z hy hz2 hyz hry.1, fun h => hry.2 ⟨hy, by rw [hyz]; exact h.2⟩⟩) (fun y hy hry => by
                rw [hbits] at hry
                by_cases e : bitI r y = true
                · have hyc : B y b = B i b := Classical.byContradiction (fun h => hry ⟨e, fun h9 => h h9.2⟩)
                  refine ⟨by omega, nd_sub (T := fun z => sM x z ∧ B z b = B i b) (fun z hz => ⟨hz.1, by rw [← hyc]; exact hz.2⟩) (nd_le (by omega) hcls.1)⟩
                · have h3 := hA1 y hy e
                  exact ⟨by omega, nd_le (by omega) h3.2⟩) (fun k2 hk2 => by
                rcases hw with ⟨rfl, _⟩ | ⟨rfl, _⟩
                · exact hA2 k2 hk2
                · exact ⟨i, hxi, hcls.2 k2 (by omega)⟩)
            have lim : li ≤ 1 + k → K (some (.int (nI li))) (gA g 49 fd2) := fun h3 => hs fd2 li h1 (Nat.le_refl _) (fun h => absurd h (by omega)) (fun _ k2 hk2 hq => hcls.2 k2 (by omega) (hq i hxi))
            rw [nI_t (by omega)]
            exact ⟨fun a1 => ⟨fun a2 => step (1 + k) (Or.inr ⟨rfl, by omega⟩) (by omega), fun a2 => lim (by omega)⟩, fun a1 => ⟨fun a2 => step v (Or.inl ⟨rfl, by omega⟩) (by omega), fun a2 => lim (by omega)⟩⟩
  have h0 := loop _ 0 rfl (Nat.zero_le _) 0 x (rA g 49) none (by omega) hfI (fun j hj => ⟨hj, Nat.zero_le _⟩) (fun y z _ hz _ _ => hz) (fun y hy h => absurd hy h) (fun k h => by omega)
  rw [gA_self] at h0
  clear hs loop exit
  apply hR 40
  simp (maxSteps := 10000000) (disch := omega) only [hS, hn, sm_eqs, hf, ha, sm_b0, Int.reduceToNat, ↓reduceIte, Nat.reduceEqDiff, true_and, and_true, List.length_nil, List.length_cons, Nat.reduceAdd, Nat.reduceLeDiff, Nat.zero_le, false_implies, true_implies, not_true_eq_false, not_false_eq_true, implies_true, Nat.reduceSub, Nat.reduceMul, Nat.reduceDiv, reduceCtorEq, tn_clamp, nI_t, tn_nI, nI_add, pk_mul, rS_gS, rS_gA, rS_gL, rA_gS, rA_gA, rA_gL, rL_gS, rL_gA, rL_gL, and_self, and_false, false_and, if_true, if_false, true_or, or_true, or_false, false_or, sm_in, eqI, sI_s, Int32.toInt_zero, Int.natCast_zero, Int.natCast_one, Int.cast_ofNat_Int, Int.reduceEq, Int.reduceLT, Int.reduceLE, Int.reduceNeg, Int.reduceNe, ne_eq, n_up, g_up, e_cat, fr_A, fr_O, fr_P, fr_L, sp_X0_search, sp_max]
  exact h0
theorem wf_X0_search (n : Nat) : sm_wf lay (yX0_search, cX0_search, 7, (some .int)) 3 false (sp_X0_search n) := by
  intro as g K h
  simp only [sp_X0_search] at h
  split at h
  · exact ⟨Nat.le_of_ble_eq_true rfl, by simp, rfl, fun _ => by obtain rfl := h.1; exact ⟨46, _, 0, [3, 11, 49, 50, 51, 1], TX0, 6, rfl, rfl, rfl⟩⟩
  · exact h.elim
set_option maxHeartbeats 4000000 in
set_option maxRecDepth 100000 in
theorem b_X0_search (n : Nat) : sm_body lay NX0_search 7 0 (sm_cl [(226, sp_J6_bitCount_0f7a4), (12, sp_X0_lowerBound), (11, sp_X0_neededBehind n), (229, sp_min)]) (sp_X0_search n) := by
  intro K J S hW as g hs
  have hn := n_X0_search
  have hf := fd_all
  have ha := ar_all
  generalize NX0_search = N at hn hW
  generalize lay = L at hf ha hW
  obtain ⟨hS, hR⟩ := hW
  simp only [sp_X0_search] at hs
  split at hs
  case h_2 => exact hs.elim
  simp only [e_args, sm_pad, List.length_cons, List.length_nil, Nat.reduceAdd, Nat.reduceSub, List.replicate_succ, List.replicate_zero, List.cons_append, List.nil_append]
  rename_i p x dp
  obtain ⟨rfl, D, B, d, hD, eD, hcT, hdis, hx, rfl, hdn, hxn, hfI, hs⟩ := hs
  have hx32 : ∀ y, sM x y → y < 32 := fun y hy => by have := hx y hy; omega
  obtain ⟨m, hm1, hm2, rfl⟩ := bi_small hD (fun i h1 _ => by
    cases hb : bitI x i with
    | false => rfl
    | true => have := hx i hb; omega)
  have hbc := bc_of ⟨m, hm2, rfl⟩
  have hcrd : cnt (bitI (nI m)) 32 = crd (sM (nI m)) := cnt_congr 32 (fun i _ => by
    cases hb : bitI (nI m) i with
    | false => exact (dc_f.mpr (by unfold sM; rw [hb]; decide)).symm
    | true => exact (dc_t.mpr hb).symm)
  rw [hcrd] at hbc
  have hc12 : crd (sM (nI m)) ≤ 12 := by rw [← hcrd]; exact cnt_bound 32 (fun i _ h => by have := hx i h; omega)
  have hmx : m < 4096 := hm2
  generalize hsz : crd (sM (nI m)) = sz at *
  by_cases h2 : sz ≤ 1
  · have hs := hs (rA g 49) 0 hfI (by omega) ⟨nd_upper hx32 (by omega), fun j h => by omega⟩
    rw [gA_self] at hs
    apply hR 60
    simp (maxSteps := 10000000) (disch := omega) only [hS, hn, sm_eqs, hf, ha, sm_b0, Int.reduceToNat, ↓reduceIte, Nat.reduceEqDiff, true_and, and_true, List.length_nil, List.length_cons, Nat.reduceAdd, Nat.reduceLeDiff, Nat.zero_le, false_implies, true_implies, not_true_eq_false, not_false_eq_true, implies_true, Nat.reduceSub, Nat.reduceMul, Nat.reduceDiv, reduceCtorEq, tn_clamp, nI_t, tn_nI, nI_add, pk_mul, rS_gS, rS_gA, rS_gL, rA_gS, rA_gA, rA_gL, rL_gS, rL_gA, rL_gL, and_self, and_false, false_and, if_true, if_false, true_or, or_true, or_false, false_or, sm_in, eqI, sI_s, Int32.toInt_zero, Int.natCast_zero, Int.natCast_one, Int.cast_ofNat_Int, Int.reduceEq, Int.reduceLT, Int.reduceLE, Int.reduceNeg, Int.reduceNe, ne_eq, n_up, g_up, e_cat, fr_A, fr_O, fr_P, fr_L, sp_J6_bitCount_0f7a4, sp_X0_lowerBound, sp_X0_neededBehind, sp_min, hbc]
    clear hn hf ha hS hR
    repeat' (first | (refine And.intro ?_ ?_) | (intro _))
    all_goals (first | with_reducible assumption | omega | (exfalso; omega))
  · rcases hfI m hm1 with h0 | ⟨k, k1, k2, k3, k4⟩
    · have l1 : ∀ bd w, bd ≤ 12 → 1 ≤ w → (∀ q, q < 16 → ∃ m2, m2 ≤ w ∧ pps B (sM (nI m)) q m2) → (∀ j, j < bd → w ^ j < sz) → ∀ m2 q, m2 = 16 - q → q ≤ 16 → ∀ v fd, v ≤ sz → 1 ≤ v → (v < sz → ∃ q, q < 16 ∧ nq B 16 (v - 1) (sM (nI m)) q) → (∀ u, u < q → prt B (sM (nI m)) u → ∀ k, k + 1 < v → ¬ nq B 16 k (sM (nI m)) u) → fI D B fd →
          J 61 [some (.ref 46), some (.int (nI m)), some (.int (nI d)), some (.int (nI sz)), some (.int (nI bd)), some (.int (nI v)), some (.int (nI q))] [] (gA g 49 fd) := by
        intro bd w hbd hw hpw hj
        have fin : ∀ v fd, v ≤ sz → 1 ≤ v → (v < sz → ∃ q, q < 16 ∧ nq B 16 (v - 1) (sM (nI m)) q) → (v ≤ bd ∨ ∀ q, q < 16 → prt B (sM (nI m)) q → ∀ k, k + 1 < v → ¬ nq B 16 k (sM (nI m)) q) → fI D B fd → K (some (.int (nI v))) (gA g 49 (upd fd m (nI v))) := fun v fd v1 v2 v3 v4 v5 => by
          obtain ⟨q1, q2⟩ := nd_done hD hdis hx hsz (by omega) hw hpw hj v1 v2 v3 v4
          refine hs (upd fd m (nI v)) v (fun a ha9 => ?_) (by omega) q1
          by_cases e : a = m
          · rw [e, pk_us]; exact Or.inr ⟨v, v2, by omega, rfl, q1⟩
          · rw [pk_un e]; exact v5 a ha9
        intro m2
        induction m2 with
        | zero =>
          intro q hmq hq v fd v1 v2 v3 v4 v5
          obtain rfl : q = 16 := by omega
          have fin := fin v fd v1 v2 v3 (Or.inr v4) v5
          clear hs
          apply hR 60
          simp (maxSteps := 10000000) (disch := omega) only [hS, hn, sm_eqs, hf, ha, sm_b0, Int.reduceToNat, ↓reduceIte, Nat.reduceEqDiff, true_and, and_true, List.length_nil, List.length_cons, Nat.reduceAdd, Nat.reduceLeDiff, Nat.zero_le, false_implies, true_implies, not_true_eq_false, not_false_eq_true, implies_true, Nat.reduceSub, Nat.reduceMul, Nat.reduceDiv, reduceCtorEq, tn_clamp, nI_t, tn_nI, nI_add, pk_mul, rS_gS, rS_gA, rS_gL, rA_gS, rA_gA, rA_gL, rL_gS, rL_gA, rL_gL, and_self, and_false, false_and, if_true, if_false, true_or, or_true, or_false, false_or, sm_in, eqI, sI_s, Int32.toInt_zero, Int.natCast_zero, Int.natCast_one, Int.cast_ofNat_Int, Int.reduceEq, Int.reduceLT, Int.reduceLE, Int.reduceNeg, Int.reduceNe, ne_eq, n_up, g_up, e_cat, fr_A, fr_O, fr_P, fr_L, sp_J6_bitCount_0f7a4, sp_X0_lowerBound, sp_X0_neededBehind, sp_min]
          clear hn hf ha hS hR
          repeat' (first | (refine And.intro ?_ ?_) | (intro _))
          all_goals (first | with_reducible assumption | omega | (exfalso; omega))
        | succ m2 ih =>
          intro q hmq hq v fd v1 v2 v3 v4 v5
          by_cases hvb : v ≤ bd
          · have fin := fin v fd v1 v2 v3 (Or.inl hvb) v5
            clear hs ih
            apply hR 60
            simp (maxSteps := 10000000) (disch := omega) only [hS, hn, sm_eqs, hf, ha, sm_b0, Int.reduceToNat, ↓reduceIte, Nat.reduceEqDiff, true_and, and_true, List.length_nil, List.length_cons, Nat.reduceAdd, Nat.reduceLeDiff, Nat.zero_le, false_implies, true_implies, not_true_eq_false, not_false_eq_true, implies_true, Nat.reduceSub, Nat.reduceMul, Nat.reduceDiv, reduceCtorEq, tn_clamp, nI_t, tn_nI, nI_add, pk_mul, rS_gS, rS_gA, rS_gL, rA_gS, rA_gA, rA_gL, rL_gS, rL_gA, rL_gL, and_self, and_false, false_and, if_true, if_false, true_or, or_true, or_false, false_or, sm_in, eqI, sI_s, Int32.toInt_zero, Int.natCast_zero, Int.natCast_one, Int.cast_ofNat_Int, Int.reduceEq, Int.reduceLT, Int.reduceLE, Int.reduceNeg, Int.reduceNe, ne_eq, n_up, g_up, e_cat, fr_A, fr_O, fr_P, fr_L, sp_J6_bitCount_0f7a4, sp_X0_lowerBound, sp_X0_neededBehind, sp_min]
            clear hn hf ha hS hR
            repeat' (first | (refine And.intro ?_ ?_) | (intro _))
            all_goals (first | with_reducible assumption | omega | (exfalso; omega))
          · clear hs fin
            have hm3 : m2 = 16 - (q + 1) ∧ q + 1 ≤ 16 := sub16 hmq hq
            have ih := ih (q + 1) hm3.1 hm3.2
            apply hR 60
            simp (maxSteps := 10000000) (disch := omega) only [hS, hn, sm_eqs, hf, ha, sm_b0, Int.reduceToNat, ↓reduceIte, Nat.reduceEqDiff, true_and, and_true, List.length_nil, List.length_cons, Nat.reduceAdd, Nat.reduceLeDiff, Nat.zero_le, false_implies, true_implies, not_true_eq_false, not_false_eq_true, implies_true, Nat.reduceSub, Nat.reduceMul, Nat.reduceDiv, reduceCtorEq, tn_clamp, nI_t, tn_nI, nI_add, pk_mul, rS_gS, rS_gA, rS_gL, rA_gS, rA_gA, rA_gL, rL_gS, rL_gA, rL_gL, and_self, and_false, false_and, if_true, if_false, true_or, or_true, or_false, false_or, sm_in, eqI, sI_s, Int32.toInt_zero, Int.natCast_zero, Int.natCast_one, Int.cast_ofNat_Int, Int.reduceEq, Int.reduceLT, Int.reduceLE, Int.reduceNeg, Int.reduceNe, ne_eq, n_up, g_up, e_cat, fr_A, fr_O, fr_P, fr_L, sp_J6_bitCount_0f7a4, sp_X0_lowerBound, sp_X0_neededBehind, sp_min, sp_min, fr_cT, eD]
            clear hn hf ha hS hR
            refine ⟨fun _ => ⟨fun _ => ⟨D, B, q, v, d, hD, (nI_t (by omega)).symm, hcT, hdis, hx, (nI_t (by omega)).symm, by omega, (nI_t (by omega)).symm, v2, by omega, (nI_t (by omega)).symm, hdn, by rw [hsz]; omega, by rw [hsz]; exact hxn, v5, fun fd2 r r1 r2 r3 r4 => ?_⟩, fun h => absurd h (by omega)⟩, fun h => absurd h (by omega)⟩
            rw [nI_t (by omega)]
            refine ⟨fun hlt => ?_, fun hnl => ?_⟩
            · have hrv : r < v := by omega
              exact ih r fd2 (by omega) (r3 hrv).1 (fun _ => ⟨q, by omega, (r3 hrv).2⟩) (fun u hu hp k hk => by
                by_cases e : u = q
                · rw [e] at hp ⊢; exact r4 hp k hk
                · exact v4 u (by omega) hp k (by omega)) r1
            · have hrv : r = v := by omega
              exact ih v fd2 v1 v2 v3 (fun u hu hp k hk => by
                by_cases e : u = q
                · rw [e] at hp ⊢; exact r4 hp k (by omega)
                · exact v4 u (by omega) hp k hk) r1
      clear hs
      apply hR 60
      simp (maxSteps := 10000000) (disch := omega) only [hS, hn, sm_eqs, hf, ha, sm_b0, Int.reduceToNat, ↓reduceIte, Nat.reduceEqDiff, true_and, and_true, List.length_nil, List.length_cons, Nat.reduceAdd, Nat.reduceLeDiff, Nat.zero_le, false_implies, true_implies, not_true_eq_false, not_false_eq_true, implies_true, Nat.reduceSub, Nat.reduceMul, Nat.reduceDiv, reduceCtorEq, tn_clamp, nI_t, tn_nI, nI_add, pk_mul, rS_gS, rS_gA, rS_gL, rA_gS, rA_gA, rA_gL, rL_gS, rL_gA, rL_gL, and_self, and_false, false_and, if_true, if_false, true_or, or_true, or_false, false_or, sm_in, eqI, sI_s, Int32.toInt_zero, Int.natCast_zero, Int.natCast_one, Int.cast_ofNat_Int, Int.reduceEq, Int.reduceLT, Int.reduceLE, Int.reduceNeg, Int.reduceNe, ne_eq, n_up, g_up, e_cat, fr_A, fr_O, fr_P, fr_L, sp_J6_bitCount_0f7a4, sp_X0_lowerBound, sp_X0_neededBehind, sp_min, hbc, eD, h0]
      clear hn hf ha hS hR
      refine ⟨fun _ => ⟨fun _ => ⟨fun h => absurd h (by omega), fun _ => ⟨fun _ => ⟨by omega, D, B, sz, hD, (nI_t (by omega)).symm, hcT, hx, (nI_t (by omega)).symm, hc12, fun bd w b1 b2 b3 b4 => ?_⟩, fun h => absurd h (by omega)⟩⟩, fun h => absurd h (by omega)⟩, fun h => absurd h (by omega)⟩
      have h9 := l1 bd w b1 b2 b3 b4 _ 0 rfl (Nat.zero_le _) sz (rA g 49) (Nat.le_refl _) (by omega) (fun h => absurd h (by omega)) (fun u h => absurd h (by omega)) hfI
      rw [gA_self] at h9
      exact h9
    · have hs := hs (rA g 49) k hfI (by omega) k4
      rw [gA_self] at hs
      have hkz : ¬ (nI k).toInt = 0 := by rw [nI_t (by omega)]; omega
      apply hR 60
      simp (maxSteps := 10000000) (disch := omega) only [hS, hn, sm_eqs, hf, ha, sm_b0, Int.reduceToNat, ↓reduceIte, Nat.reduceEqDiff, true_and, and_true, List.length_nil, List.length_cons, Nat.reduceAdd, Nat.reduceLeDiff, Nat.zero_le, false_implies, true_implies, not_true_eq_false, not_false_eq_true, implies_true, Nat.reduceSub, Nat.reduceMul, Nat.reduceDiv, reduceCtorEq, tn_clamp, nI_t, tn_nI, nI_add, pk_mul, rS_gS, rS_gA, rS_gL, rA_gS, rA_gA, rA_gL, rL_gS, rL_gA, rL_gL, and_self, and_false, false_and, if_true, if_false, true_or, or_true, or_false, false_or, sm_in, eqI, sI_s, Int32.toInt_zero, Int.natCast_zero, Int.natCast_one, Int.cast_ofNat_Int, Int.reduceEq, Int.reduceLT, Int.reduceLE, Int.reduceNeg, Int.reduceNe, ne_eq, n_up, g_up, e_cat, fr_A, fr_O, fr_P, fr_L, sp_J6_bitCount_0f7a4, sp_X0_lowerBound, sp_X0_neededBehind, sp_min, hbc, k3, hkz]
      clear hn hf ha hS hR
      repeat' (first | (refine And.intro ?_ ?_) | (intro _))
      all_goals (first | with_reducible assumption | omega | (exfalso; omega))
/-- the search, whatever the number of things -/
theorem ok_rec (l : Launch) : ∀ n, sm_spok l lay sm_mt (2 * n + 2) 11 (sp_X0_neededBehind n) ∧ sm_spok l lay sm_mt (2 * n + 3) 10 (sp_X0_search n) := by
  have search : ∀ n, sm_spok l lay sm_mt (2 * n + 2) 11 (sp_X0_neededBehind n) → sm_spok l lay sm_mt (2 * n + 3) 10 (sp_X0_search n) := fun n h => Or.inr (Or.inr (Or.inr ⟨by decide, by decide, by
    rw [mt_10]
    exact sm_method (T := TX0_) v_cok v_lok v_ka v_tok_X0 mok_X0_search rfl (by unfold sm_rk; simp) (wf_X0_search n) (List.forall_mem_cons.mpr ⟨sm_spok_up (by omega) (ok_J6_bitCount_0f7a4 l), List.forall_mem_cons.mpr ⟨sm_spok_up (by omega) (ok_X0_lowerBound l), List.forall_mem_cons.mpr ⟨h, List.forall_mem_cons.mpr ⟨Or.inr (Or.inr (Or.inl ⟨rfl, rfl⟩)), fun _ h => absurd h List.not_mem_nil⟩⟩⟩⟩) (b_X0_search n)⟩))
  intro n
  induction n with
  | zero =>
    have h0 : sm_spok l lay sm_mt (2 * 0 + 2) 11 (sp_X0_neededBehind 0) := Or.inl (fun as g K h => by
      simp only [sp_X0_neededBehind] at h
      split at h
      · obtain ⟨_, D, B, b, li, d, h⟩ := h
        omega
      · exact h)
    exact ⟨h0, search 0 h0⟩
  | succ n ih =>
    have h1 : sm_spok l lay sm_mt (2 * (n + 1) + 2) 11 (sp_X0_neededBehind (n + 1)) := Or.inr (Or.inr (Or.inr ⟨by decide, by decide, by
      rw [mt_11]
      exact sm_method (T := TX0_) v_cok v_lok v_ka v_tok_X0 mok_X0_neededBehind rfl (by unfold sm_rk; simp) (wf_X0_neededBehind (n + 1)) (List.forall_mem_cons.mpr ⟨ih.2, List.forall_mem_cons.mpr ⟨Or.inr (Or.inl ⟨rfl, rfl⟩), fun _ h => absurd h List.not_mem_nil⟩⟩) (b_X0_neededBehind (n + 1))⟩))
    exact ⟨h1, search (n + 1) h1⟩
theorem ok_X0_search (l : Launch) : sm_spok l lay sm_mt 27 10 (sp_X0_search 12) := (ok_rec l 12).2

