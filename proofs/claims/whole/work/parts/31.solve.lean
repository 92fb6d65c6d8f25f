/-! The assignment is solved. -/
theorem lgc_lt (x y : Int64) : ((lg_cmp x y).toInt < 0) = (x.toInt < y.toInt) := by
  unfold lg_cmp
  simp only [gt_iff_lt, Int64.lt_iff_toInt_lt, ← Int64.toInt_inj]
  by_cases h1 : y.toInt < x.toInt
  · rw [if_pos h1]; exact propext ⟨fun h => absurd h (by decide), fun h => by omega⟩
  · rw [if_neg h1]
    by_cases h2 : x.toInt = y.toInt
    · rw [if_pos h2]; exact propext ⟨fun h => absurd h (by decide), fun h => by omega⟩
    · rw [if_neg h2]; exact propext ⟨fun _ => by omega, fun _ => by decide⟩
theorem far_t : (lN 4611686018427387904).toInt = 4611686018427387904 := by decide +kernel
theorem fr_hd : (∀ (g : sm_G) (k : Nat) (f : Nat → Int64) (j : Int32), hdC (gL g k f) j = hdC g j) ∧ (∀ (g : sm_G) (k : Nat) (f : Nat → Int32) (j : Int32), 41 ≠ k → hdC (gA g k f) j = hdC g j) :=
  ⟨fun _ _ _ _ => rfl, fun g k f j h => by simp only [hdC, rA_gA, if_neg h]; rfl⟩
theorem hdC_nI {g : sm_G} {c i R : Nat} (hc : c < 31) (h : rA g 41 c = nI i) (hR : rS g 34 108 = nI R) (hR2 : R ≤ 10) (hi : i ≤ R) : hdC g (nI c) = nI i := by
  unfold hdC
  simp (disch := omega) only [tn_nI, h, hR, nI_t]
  rw [if_pos (by omega)]
/-- what it costs to go on from row i to column c -/
def ckC (g : sm_G) (i c : Nat) : Int64 := rL g 35 (i * 31 + c) - rL g 37 i - rL g 38 c
def lkC (g : sm_G) (i c : Nat) : Prop := (rA g 42 c).toInt = 0 ∧ (ckC g i c).toInt < (rL g 39 c).toInt
def sp_X1_lookFrom : sm_SP := fun as g K => match as with
  | [.ref p, .int j] => p = 34 ∧ ∃ N c i, N ≤ 30 ∧ rS g 34 110 = nI N ∧ j = nI c ∧ c ≤ 30 ∧ hdC g (nI c) = nI i ∧ i ≤ 10 ∧
      (∀ sl1 cf1, (∀ b, 1 ≤ b → b ≤ N → (lkC g i b → sl1 b = ckC g i b ∧ cf1 b = nI c) ∧ (¬ lkC g i b → sl1 b = rL g 39 b ∧ cf1 b = rA g 40 b)) → K none (gL (gA g 40 cf1) 39 sl1))
  | _ => False
theorem wf_X1_lookFrom : sm_wf lay (yX1_lookFrom, cX1_lookFrom, 6, none) 2 false sp_X1_lookFrom := by
  intro as g K h
  simp only [sp_X1_lookFrom] at h
  split at h
  · exact ⟨Nat.le_of_ble_eq_true rfl, by simp, rfl, fun _ => by obtain rfl := h.1; exact ⟨34, _, 1, [37, 38, 39, 40, 41, 42, 43, 44, 1, 1, 1], TX1, 11, rfl, rfl, rfl⟩⟩
  · exact h.elim
set_option maxHeartbeats 4000000 in
set_option maxRecDepth 100000 in
theorem b_X1_lookFrom : sm_body lay NX1_lookFrom 6 4 (sm_cl [(19, sp_X1_holderOf)]) sp_X1_lookFrom := by
  intro K J S hW as g hs
  have hn := n_X1_lookFrom
  have hf := fd_all
  have ha := ar_all
  generalize NX1_lookFrom = N at hn hW
  generalize lay = L at hf ha hW
  obtain ⟨hS, hR⟩ := hW
  simp only [sp_X1_lookFrom] at hs
  split at hs
  case h_2 => exact hs.elim
  simp only [e_args, sm_pad, List.length_cons, List.length_nil, Nat.reduceAdd, Nat.reduceSub, List.replicate_succ, List.replicate_zero, List.cons_append, List.nil_append]
  rename_i p j
  obtain ⟨rfl, N, c, i, hN30, hN, rfl, hc30, hd, hi10, hs⟩ := hs
  have loop : ∀ m b, m = N + 1 - b → 1 ≤ b → b ≤ N + 1 → ∀ sl1 cf1, (∀ a, 1 ≤ a → a < b → (lkC g i a → sl1 a = ckC g i a ∧ cf1 a = nI c) ∧ (¬ lkC g i a → sl1 a = rL g 39 a ∧ cf1 a = rA g 40 a)) → (∀ a, b ≤ a → sl1 a = rL g 39 a ∧ cf1 a = rA g 40 a) →
      ∀ v4 v5, J 8 [some (.ref 34), some (.int (nI c)), some (.int (nI i)), some (.int (nI b)), v4, v5] [] (gL (gA g 40 cf1) 39 sl1) := by
    intro m
    induction m with
    | zero =>
      intro b hm hb1 hb2 sl1 cf1 h1 h2 v4 v5
      obtain rfl : b = N + 1 := by omega
      have hs := hs sl1 cf1 (fun a a1 a2 => h1 a a1 (by omega))
      apply hR 60
      simp (maxSteps := 10000000) (disch := omega) only [hS, hn, sm_eqs, hf, ha, sm_b0, Int.reduceToNat, ↓reduceIte, Nat.reduceEqDiff, true_and, and_true, List.length_nil, List.length_cons, Nat.reduceAdd, Nat.reduceLeDiff, Nat.zero_le, false_implies, true_implies, not_true_eq_false, not_false_eq_true, implies_true, Nat.reduceSub, Nat.reduceMul, Nat.reduceDiv, reduceCtorEq, tn_clamp, nI_t, tn_nI, nI_add, pk_mul, rS_gS, rS_gA, rS_gL, rA_gS, rA_gA, rA_gL, rL_gS, rL_gA, rL_gL, and_self, and_false, false_and, if_true, if_false, true_or, or_true, or_false, false_or, sm_in, eqI, sI_s, Int32.toInt_zero, Int.natCast_zero, Int.natCast_one, Int.cast_ofNat_Int, Int.reduceEq, Int.reduceLT, Int.reduceLE, Int.reduceNeg, Int.reduceNe, ne_eq, n_up, g_up, e_cat, fr_A, fr_O, fr_P, fr_L, sp_X1_holderOf, hN]
      repeat' (first | (refine And.intro ?_ ?_) | (intro _))
      all_goals (first | with_reducible assumption | omega | (exfalso; omega))
    | succ m ih =>
      intro b hm hb1 hb2 sl1 cf1 h1 h2 v4 v5
      obtain ⟨hsb, hcb⟩ := h2 b (Nat.le_refl _)
      by_cases hk : lkC g i b
      · have ih := ih (b + 1) (by omega) (by omega) (by omega) (vp_updL sl1 b (ckC g i b)) (upd cf1 b (nI c)) (fun a a1 a2 => by
          by_cases e : a = b
          · subst e; rw [pk_uLs, pk_us]; exact ⟨fun _ => ⟨rfl, rfl⟩, fun h => absurd hk h⟩
          · rw [pk_uLn e, pk_un e]; exact h1 a a1 (by omega)) (fun a ha2 => by rw [pk_uLn (by omega), pk_un (by omega)]; exact h2 a (by omega))
        obtain ⟨k1, k2⟩ := hk
        simp only [ckC] at k2 ih
        apply hR 60
        simp (maxSteps := 10000000) (disch := omega) only [hS, hn, sm_eqs, hf, ha, sm_b0, Int.reduceToNat, ↓reduceIte, Nat.reduceEqDiff, true_and, and_true, List.length_nil, List.length_cons, Nat.reduceAdd, Nat.reduceLeDiff, Nat.zero_le, false_implies, true_implies, not_true_eq_false, not_false_eq_true, implies_true, Nat.reduceSub, Nat.reduceMul, Nat.reduceDiv, reduceCtorEq, tn_clamp, nI_t, tn_nI, nI_add, pk_mul, rS_gS, rS_gA, rS_gL, rA_gS, rA_gA, rA_gL, rL_gS, rL_gA, rL_gL, and_self, and_false, false_and, if_true, if_false, true_or, or_true, or_false, false_or, sm_in, eqI, sI_s, Int32.toInt_zero, Int.natCast_zero, Int.natCast_one, Int.cast_ofNat_Int, Int.reduceEq, Int.reduceLT, Int.reduceLE, Int.reduceNeg, Int.reduceNe, ne_eq, n_up, g_up, e_cat, fr_A, fr_O, fr_P, fr_L, sp_X1_holderOf, hN, k1, lgc_lt, hsb, k2]
        clear hn hf ha hS hR hs h1 h2
        have ih := ih (some (.long (rL g 35 (i * 31 + b) - rL g 37 i - rL g 38 b))) none
        repeat' (first | (refine And.intro ?_ ?_) | (intro _))
        all_goals (first | with_reducible assumption | omega | (exfalso; omega))
      · have ih := ih (b + 1) (by omega) (by omega) (by omega) sl1 cf1 (fun a a1 a2 => by
          by_cases e : a = b
          · subst e; exact ⟨fun h => absurd h hk, fun _ => ⟨hsb, hcb⟩⟩
          · exact h1 a a1 (by omega)) (fun a ha2 => h2 a (by omega))
        simp only [lkC, ckC] at hk
        apply hR 60
        simp (maxSteps := 10000000) (disch := omega) only [hS, hn, sm_eqs, hf, ha, sm_b0, Int.reduceToNat, ↓reduceIte, Nat.reduceEqDiff, true_and, and_true, List.length_nil, List.length_cons, Nat.reduceAdd, Nat.reduceLeDiff, Nat.zero_le, false_implies, true_implies, not_true_eq_false, not_false_eq_true, implies_true, Nat.reduceSub, Nat.reduceMul, Nat.reduceDiv, reduceCtorEq, tn_clamp, nI_t, tn_nI, nI_add, pk_mul, rS_gS, rS_gA, rS_gL, rA_gS, rA_gA, rA_gL, rL_gS, rL_gA, rL_gL, and_self, and_false, false_and, if_true, if_false, true_or, or_true, or_false, false_or, sm_in, eqI, sI_s, Int32.toInt_zero, Int.natCast_zero, Int.natCast_one, Int.cast_ofNat_Int, Int.reduceEq, Int.reduceLT, Int.reduceLE, Int.reduceNeg, Int.reduceNe, ne_eq, n_up, g_up, e_cat, fr_A, fr_O, fr_P, fr_L, sp_X1_holderOf, hN, lgc_lt, hsb]
        clear hn hf ha hS hR hs h1 h2
        have ih := ih (some (.long (rL g 35 (i * 31 + b) - rL g 37 i - rL g 38 b))) none
        repeat' (first | (refine And.intro ?_ ?_) | (intro _))
        all_goals (first | with_reducible assumption | omega | (exfalso; omega) | exact absurd ⟨by assumption, by assumption⟩ hk)
  have h0 := loop _ 1 rfl (Nat.le_refl _) (by omega) (rL g 39) (rA g 40) (fun a a1 a2 => by omega) (fun a _ => ⟨rfl, rfl⟩) none none
  rw [gA_self, gL_self] at h0
  apply hR 40
  simp (maxSteps := 10000000) (disch := omega) only [hS, hn, sm_eqs, hf, ha, sm_b0, Int.reduceToNat, ↓reduceIte, Nat.reduceEqDiff, true_and, and_true, List.length_nil, List.length_cons, Nat.reduceAdd, Nat.reduceLeDiff, Nat.zero_le, false_implies, true_implies, not_true_eq_false, not_false_eq_true, implies_true, Nat.reduceSub, Nat.reduceMul, Nat.reduceDiv, reduceCtorEq, tn_clamp, nI_t, tn_nI, nI_add, pk_mul, rS_gS, rS_gA, rS_gL, rA_gS, rA_gA, rA_gL, rL_gS, rL_gA, rL_gL, and_self, and_false, false_and, if_true, if_false, true_or, or_true, or_false, false_or, sm_in, eqI, sI_s, Int32.toInt_zero, Int.natCast_zero, Int.natCast_one, Int.cast_ofNat_Int, Int.reduceEq, Int.reduceLT, Int.reduceLE, Int.reduceNeg, Int.reduceNe, ne_eq, n_up, g_up, e_cat, fr_A, fr_O, fr_P, fr_L, sp_X1_holderOf, hd]
  exact h0
theorem ok_X1_lookFrom (l : Launch) : sm_spok l lay sm_mt 2 20 sp_X1_lookFrom := Or.inr (Or.inr (Or.inr ⟨by decide, by decide, by
  rw [mt_20]
  exact sm_method (T := TX1_) v_cok v_lok v_ka v_tok_X1 mok_X1_lookFrom rfl (by unfold sm_rk; simp) wf_X1_lookFrom (List.forall_mem_cons.mpr ⟨sm_spok_up (Nat.le_of_ble_eq_true rfl : 1 ≤ 1) (ok_X1_holderOf l), fun _ h => absurd h List.not_mem_nil⟩) b_X1_lookFrom⟩))
def sp_X1_nearest : sm_SP := fun as g K => match as with
  | [.ref p] => p = 34 ∧ ∃ N, N ≤ 30 ∧ rS g 34 110 = nI N ∧ (∃ c, 1 ≤ c ∧ c ≤ N ∧ (rA g 42 c).toInt = 0 ∧ (rL g 39 c).toInt < 4611686018427387904) ∧
      (∀ f, 1 ≤ f → f ≤ N → (rA g 42 f).toInt = 0 → (∀ c, 1 ≤ c → c ≤ N → (rA g 42 c).toInt = 0 → (rL g 39 f).toInt ≤ (rL g 39 c).toInt) → K (some (.int (nI f))) g)
  | _ => False
theorem wf_X1_nearest : sm_wf lay (yX1_nearest, cX1_nearest, 5, (some .int)) 1 false sp_X1_nearest := by
  intro as g K h
  simp only [sp_X1_nearest] at h
  split at h
  · exact ⟨Nat.le_of_ble_eq_true rfl, by simp, rfl, fun _ => by obtain rfl := h.1; exact ⟨34, _, 1, [37, 38, 39, 40, 41, 42, 43, 44, 1, 1, 1], TX1, 11, rfl, rfl, rfl⟩⟩
  · exact h.elim
set_option maxHeartbeats 4000000 in
set_option maxRecDepth 100000 in
theorem b_X1_nearest : sm_body lay NX1_nearest 5 0 (sm_cl []) sp_X1_nearest := by
  intro K J S hW as g hs
  have hn := n_X1_nearest
  have hf := fd_all
  have ha := ar_all
  generalize NX1_nearest = N at hn hW
  generalize lay = L at hf ha hW
  obtain ⟨hS, hR⟩ := hW
  simp only [sp_X1_nearest] at hs
  split at hs
  case h_2 => exact hs.elim
  simp only [e_args, sm_pad, List.length_cons, List.length_nil, Nat.reduceAdd, Nat.reduceSub, List.replicate_succ, List.replicate_zero, List.cons_append, List.nil_append]
  rename_i p
  obtain ⟨rfl, N, hN30, hN, ⟨c, c1, c2, c3, c4⟩, hs⟩ := hs
  have loop : ∀ m b, m = N + 1 - b → 1 ≤ b → b ≤ N + 1 → ∀ f le, (f = 0 ∧ le = lN 4611686018427387904 ∧ ∀ a, 1 ≤ a → a < b → (rA g 42 a).toInt = 0 → 4611686018427387904 ≤ (rL g 39 a).toInt) ∨ (1 ≤ f ∧ f < b ∧ (rA g 42 f).toInt = 0 ∧ le = rL g 39 f ∧ ∀ a, 1 ≤ a → a < b → (rA g 42 a).toInt = 0 → (rL g 39 f).toInt ≤ (rL g 39 a).toInt) →
      J 9 [some (.ref 34), some (.int (nI f)), some (.long le), none, some (.int (nI b))] [] g := by
    intro m
    induction m with
    | zero =>
      intro b hm hb1 hb2 f le hI
      obtain rfl : b = N + 1 := by omega
      rcases hI with ⟨_, _, h⟩ | ⟨h1, h2, h3, h4, h5⟩
      · have := h c c1 (by omega) c3; omega
      · have hs := hs f h1 (by omega) h3 (fun a a1 a2 a3 => h5 a a1 (by omega) a3)
        apply hR 60
        simp (maxSteps := 10000000) (disch := omega) only [hS, hn, sm_eqs, hf, ha, sm_b0, Int.reduceToNat, ↓reduceIte, Nat.reduceEqDiff, true_and, and_true, List.length_nil, List.length_cons, Nat.reduceAdd, Nat.reduceLeDiff, Nat.zero_le, false_implies, true_implies, not_true_eq_false, not_false_eq_true, implies_true, Nat.reduceSub, Nat.reduceMul, Nat.reduceDiv, reduceCtorEq, tn_clamp, nI_t, tn_nI, nI_add, pk_mul, rS_gS, rS_gA, rS_gL, rA_gS, rA_gA, rA_gL, rL_gS, rL_gA, rL_gL, and_self, and_false, false_and, if_true, if_false, true_or, or_true, or_false, false_or, sm_in, eqI, sI_s, Int32.toInt_zero, Int.natCast_zero, Int.natCast_one, Int.cast_ofNat_Int, Int.reduceEq, Int.reduceLT, Int.reduceLE, Int.reduceNeg, Int.reduceNe, ne_eq, n_up, g_up, e_cat, fr_A, fr_O, fr_P, fr_L, hN]
        repeat' (first | (refine And.intro ?_ ?_) | (intro _))
        all_goals (first | with_reducible assumption | omega | (exfalso; omega))
    | succ m ih =>
      intro b hm hb1 hb2 f le hI
      have hfb : f < b := by rcases hI with h | h <;> omega
      by_cases hr : (rA g 42 b).toInt = 0
      · by_cases hl : (rL g 39 b).toInt < le.toInt
        · have ih := ih (b + 1) (by omega) (by omega) (by omega) b (rL g 39 b) (Or.inr ⟨hb1, by omega, hr, rfl, fun a a1 a2 a3 => by
            by_cases e : a = b
            · rw [e]; exact Int.le_refl _
            · rcases hI with ⟨_, h2, h⟩ | ⟨_, _, _, h4, h5⟩
              · have := h a a1 (by omega) a3; rw [h2, far_t] at hl; omega
              · have := h5 a a1 (by omega) a3; rw [h4] at hl; omega⟩)
          apply hR 60
          simp (maxSteps := 10000000) (disch := omega) only [hS, hn, sm_eqs, hf, ha, sm_b0, Int.reduceToNat, ↓reduceIte, Nat.reduceEqDiff, true_and, and_true, List.length_nil, List.length_cons, Nat.reduceAdd, Nat.reduceLeDiff, Nat.zero_le, false_implies, true_implies, not_true_eq_false, not_false_eq_true, implies_true, Nat.reduceSub, Nat.reduceMul, Nat.reduceDiv, reduceCtorEq, tn_clamp, nI_t, tn_nI, nI_add, pk_mul, rS_gS, rS_gA, rS_gL, rA_gS, rA_gA, rA_gL, rL_gS, rL_gA, rL_gL, and_self, and_false, false_and, if_true, if_false, true_or, or_true, or_false, false_or, sm_in, eqI, sI_s, Int32.toInt_zero, Int.natCast_zero, Int.natCast_one, Int.cast_ofNat_Int, Int.reduceEq, Int.reduceLT, Int.reduceLE, Int.reduceNeg, Int.reduceNe, ne_eq, n_up, g_up, e_cat, fr_A, fr_O, fr_P, fr_L, hN, hr, lgc_lt, hl]
          clear hn hf ha hS hR hs hI
          repeat' (first | (refine And.intro ?_ ?_) | (intro _))
          all_goals (first | with_reducible assumption | omega | (exfalso; omega))
        · have ih := ih (b + 1) (by omega) (by omega) (by omega) f le (by
            rcases hI with ⟨h1, h2, h⟩ | ⟨h1, h2, h3, h4, h5⟩
            · refine Or.inl ⟨h1, h2, fun a a1 a2 a3 => ?_⟩
              by_cases e : a = b
              · rw [e]; rw [h2, far_t] at hl; omega
              · exact h a a1 (by omega) a3
            · refine Or.inr ⟨h1, by omega, h3, h4, fun a a1 a2 a3 => ?_⟩
              by_cases e : a = b
              · rw [e]; rw [h4] at hl; omega
              · exact h5 a a1 (by omega) a3)
          apply hR 60
          simp (maxSteps := 10000000) (disch := omega) only [hS, hn, sm_eqs, hf, ha, sm_b0, Int.reduceToNat, ↓reduceIte, Nat.reduceEqDiff, true_and, and_true, List.length_nil, List.length_cons, Nat.reduceAdd, Nat.reduceLeDiff, Nat.zero_le, false_implies, true_implies, not_true_eq_false, not_false_eq_true, implies_true, Nat.reduceSub, Nat.reduceMul, Nat.reduceDiv, reduceCtorEq, tn_clamp, nI_t, tn_nI, nI_add, pk_mul, rS_gS, rS_gA, rS_gL, rA_gS, rA_gA, rA_gL, rL_gS, rL_gA, rL_gL, and_self, and_false, false_and, if_true, if_false, true_or, or_true, or_false, false_or, sm_in, eqI, sI_s, Int32.toInt_zero, Int.natCast_zero, Int.natCast_one, Int.cast_ofNat_Int, Int.reduceEq, Int.reduceLT, Int.reduceLE, Int.reduceNeg, Int.reduceNe, ne_eq, n_up, g_up, e_cat, fr_A, fr_O, fr_P, fr_L, hN, hr, lgc_lt, hl]
          clear hn hf ha hS hR hs hI
          repeat' (first | (refine And.intro ?_ ?_) | (intro _))
          all_goals (first | with_reducible assumption | omega | (exfalso; omega))
      · have ih := ih (b + 1) (by omega) (by omega) (by omega) f le (by
          rcases hI with ⟨h1, h2, h⟩ | ⟨h1, h2, h3, h4, h5⟩
          · refine Or.inl ⟨h1, h2, fun a a1 a2 a3 => ?_⟩
            by_cases e : a = b
            · rw [e] at a3; exact absurd a3 hr
            · exact h a a1 (by omega) a3
          · refine Or.inr ⟨h1, by omega, h3, h4, fun a a1 a2 a3 => ?_⟩
            by_cases e : a = b
            · rw [e] at a3; exact absurd a3 hr
            · exact h5 a a1 (by omega) a3)
        apply hR 60
        simp (maxSteps := 10000000) (disch := omega) only [hS, hn, sm_eqs, hf, ha, sm_b0, Int.reduceToNat, ↓reduceIte, Nat.reduceEqDiff, true_and, and_true, List.length_nil, List.length_cons, Nat.reduceAdd, Nat.reduceLeDiff, Nat.zero_le, false_implies, true_implies, not_true_eq_false, not_false_eq_true, implies_true, Nat.reduceSub, Nat.reduceMul, Nat.reduceDiv, reduceCtorEq, tn_clamp, nI_t, tn_nI, nI_add, pk_mul, rS_gS, rS_gA, rS_gL, rA_gS, rA_gA, rA_gL, rL_gS, rL_gA, rL_gL, and_self, and_false, false_and, if_true, if_false, true_or, or_true, or_false, false_or, sm_in, eqI, sI_s, Int32.toInt_zero, Int.natCast_zero, Int.natCast_one, Int.cast_ofNat_Int, Int.reduceEq, Int.reduceLT, Int.reduceLE, Int.reduceNeg, Int.reduceNe, ne_eq, n_up, g_up, e_cat, fr_A, fr_O, fr_P, fr_L, hN, hr]
        clear hn hf ha hS hR hs hI
        repeat' (first | (refine And.intro ?_ ?_) | (intro _))
        all_goals (first | with_reducible assumption | omega | (exfalso; omega))
  have h0 := loop _ 1 rfl (Nat.le_refl _) (by omega) 0 (lN 4611686018427387904) (Or.inl ⟨rfl, rfl, fun a a1 a2 => by omega⟩)
  apply hR 40
  simp (maxSteps := 10000000) (disch := omega) only [hS, hn, sm_eqs, hf, ha, sm_b0, Int.reduceToNat, ↓reduceIte, Nat.reduceEqDiff, true_and, and_true, List.length_nil, List.length_cons, Nat.reduceAdd, Nat.reduceLeDiff, Nat.zero_le, false_implies, true_implies, not_true_eq_false, not_false_eq_true, implies_true, Nat.reduceSub, Nat.reduceMul, Nat.reduceDiv, reduceCtorEq, tn_clamp, nI_t, tn_nI, nI_add, pk_mul, rS_gS, rS_gA, rS_gL, rA_gS, rA_gA, rA_gL, rL_gS, rL_gA, rL_gL, and_self, and_false, false_and, if_true, if_false, true_or, or_true, or_false, false_or, sm_in, eqI, sI_s, Int32.toInt_zero, Int.natCast_zero, Int.natCast_one, Int.cast_ofNat_Int, Int.reduceEq, Int.reduceLT, Int.reduceLE, Int.reduceNeg, Int.reduceNe, ne_eq, n_up, g_up, e_cat, fr_A, fr_O, fr_P, fr_L]
  exact h0
theorem ok_X1_nearest (l : Launch) : sm_spok l lay sm_mt 1 21 sp_X1_nearest := Or.inr (Or.inr (Or.inr ⟨by decide, by decide, by
  rw [mt_21]
  exact sm_method (T := TX1_) v_cok v_lok v_ka v_tok_X1 mok_X1_nearest rfl (by unfold sm_rk; simp) wf_X1_nearest (fun _ h => absurd h List.not_mem_nil) b_X1_nearest⟩))
def sp_X1_changePrices : sm_SP := fun as g K => match as with
  | [.ref p, .long d] => p = 34 ∧ ∃ (N : Nat) (h : Nat → Nat), N ≤ 30 ∧ rS g 34 110 = nI N ∧ (∀ c, c ≤ N → (rA g 42 c).toInt ≠ 0 → hdC g (nI c) = nI (h c) ∧ h c ≤ 10) ∧ (∀ c b, c ≤ N → b ≤ N → (rA g 42 c).toInt ≠ 0 → (rA g 42 b).toInt ≠ 0 → h c = h b → c = b) ∧
      (∀ rp2 cp2 sl2, (∀ c, c ≤ N → (rA g 42 c).toInt ≠ 0 → rp2 (h c) = rL g 37 (h c) + d ∧ cp2 c = rL g 38 c - d) → (∀ c, c ≤ N → (rA g 42 c).toInt = 0 → cp2 c = rL g 38 c ∧ sl2 c = rL g 39 c - d) →
        (∀ i, i ≤ 10 → (∀ c, c ≤ N → (rA g 42 c).toInt ≠ 0 → h c ≠ i) → rp2 i = rL g 37 i) → K none (gL (gL (gL g 37 rp2) 38 cp2) 39 sl2))
  | _ => False
theorem wf_X1_changePrices : sm_wf lay (yX1_changePrices, cX1_changePrices, 4, none) 2 false sp_X1_changePrices := by
  intro as g K h
  simp only [sp_X1_changePrices] at h
  split at h
  · exact ⟨Nat.le_of_ble_eq_true rfl, by simp, rfl, fun _ => by obtain rfl := h.1; exact ⟨34, _, 1, [37, 38, 39, 40, 41, 42, 43, 44, 1, 1, 1], TX1, 11, rfl, rfl, rfl⟩⟩
  · exact h.elim
set_option maxHeartbeats 4000000 in
set_option maxRecDepth 100000 in
theorem b_X1_changePrices : sm_body lay NX1_changePrices 4 4 (sm_cl [(19, sp_X1_holderOf)]) sp_X1_changePrices := by
  intro K J S hW as g hs
  have hn := n_X1_changePrices
  have hf := fd_all
  have ha := ar_all
  generalize NX1_changePrices = N at hn hW
  generalize lay = L at hf ha hW
  obtain ⟨hS, hR⟩ := hW
  simp only [sp_X1_changePrices] at hs
  split at hs
  case h_2 => exact hs.elim
  simp only [e_args, sm_pad, List.length_cons, List.length_nil, Nat.reduceAdd, Nat.reduceSub, List.replicate_succ, List.replicate_zero, List.cons_append, List.nil_append]
  rename_i p d
  obtain ⟨rfl, N, h, hN30, hN, hh, hinj, hs⟩ := hs
  have loop : ∀ m b, m = N + 1 - b → b ≤ N + 1 → ∀ rp2 cp2 sl2, (∀ c, c < b → (rA g 42 c).toInt ≠ 0 → rp2 (h c) = rL g 37 (h c) + d ∧ cp2 c = rL g 38 c - d) → (∀ c, c < b → (rA g 42 c).toInt = 0 → cp2 c = rL g 38 c ∧ sl2 c = rL g 39 c - d) →
        (∀ i, i ≤ 10 → (∀ c, c < b → (rA g 42 c).toInt ≠ 0 → h c ≠ i) → rp2 i = rL g 37 i) → (∀ c, b ≤ c → cp2 c = rL g 38 c ∧ sl2 c = rL g 39 c) → J 2 [some (.ref 34), some (.long d), none, some (.int (nI b))] [] (gL (gL (gL g 37 rp2) 38 cp2) 39 sl2) := by
    intro m
    induction m with
    | zero =>
      intro b hm hb rp2 cp2 sl2 h1 h2 h3 h4
      obtain rfl : b = N + 1 := by omega
      have hs := hs rp2 cp2 sl2 (fun c hc => h1 c (by omega)) (fun c hc => h2 c (by omega)) (fun i hi hx => h3 i hi (fun c hc => hx c (by omega)))
      apply hR 60
      simp (maxSteps := 10000000) (disch := omega) only [hS, hn, sm_eqs, hf, ha, sm_b0, Int.reduceToNat, ↓reduceIte, Nat.reduceEqDiff, true_and, and_true, List.length_nil, List.length_cons, Nat.reduceAdd, Nat.reduceLeDiff, Nat.zero_le, false_implies, true_implies, not_true_eq_false, not_false_eq_true, implies_true, Nat.reduceSub, Nat.reduceMul, Nat.reduceDiv, reduceCtorEq, tn_clamp, nI_t, tn_nI, nI_add, pk_mul, rS_gS, rS_gA, rS_gL, rA_gS, rA_gA, rA_gL, rL_gS, rL_gA, rL_gL, and_self, and_false, false_and, if_true, if_false, true_or, or_true, or_false, false_or, sm_in, eqI, sI_s, Int32.toInt_zero, Int.natCast_zero, Int.natCast_one, Int.cast_ofNat_Int, Int.reduceEq, Int.reduceLT, Int.reduceLE, Int.reduceNeg, Int.reduceNe, ne_eq, n_up, g_up, e_cat, fr_A, fr_O, fr_P, fr_L, sp_X1_holderOf, hN]
      repeat' (first | (refine And.intro ?_ ?_) | (intro _))
      all_goals (first | with_reducible assumption | omega | (exfalso; omega))
    | succ m ih =>
      intro b hm hb rp2 cp2 sl2 h1 h2 h3 h4
      obtain ⟨hcb, hsb⟩ := h4 b (Nat.le_refl _)
      by_cases hr : (rA g 42 b).toInt = 0
      · have ih := ih (b + 1) (by omega) (by omega) rp2 cp2 (vp_updL sl2 b (rL g 39 b - d)) (fun c hc hx => by
          by_cases e : c = b
          · rw [e] at hx; exact absurd hr hx
          · exact h1 c (by omega) hx) (fun c hc hx => by
          by_cases e : c = b
          · subst e; rw [pk_uLs]; exact ⟨hcb, rfl⟩
          · rw [pk_uLn e]; exact h2 c (by omega) hx) (fun i hi hx => h3 i hi (fun c hc => hx c (by omega))) (fun c hc => by rw [pk_uLn (by omega)]; exact h4 c (by omega))
        apply hR 60
        simp (maxSteps := 10000000) (disch := omega) only [hS, hn, sm_eqs, hf, ha, sm_b0, Int.reduceToNat, ↓reduceIte, Nat.reduceEqDiff, true_and, and_true, List.length_nil, List.length_cons, Nat.reduceAdd, Nat.reduceLeDiff, Nat.zero_le, false_implies, true_implies, not_true_eq_false, not_false_eq_true, implies_true, Nat.reduceSub, Nat.reduceMul, Nat.reduceDiv, reduceCtorEq, tn_clamp, nI_t, tn_nI, nI_add, pk_mul, rS_gS, rS_gA, rS_gL, rA_gS, rA_gA, rA_gL, rL_gS, rL_gA, rL_gL, and_self, and_false, false_and, if_true, if_false, true_or, or_true, or_false, false_or, sm_in, eqI, sI_s, Int32.toInt_zero, Int.natCast_zero, Int.natCast_one, Int.cast_ofNat_Int, Int.reduceEq, Int.reduceLT, Int.reduceLE, Int.reduceNeg, Int.reduceNe, ne_eq, n_up, g_up, e_cat, fr_A, fr_O, fr_P, fr_L, sp_X1_holderOf, hN, hr, hsb]
        clear hn hf ha hS hR hs h1 h2 h3 h4
        repeat' (first | (refine And.intro ?_ ?_) | (intro _))
        all_goals (first | with_reducible assumption | omega | (exfalso; omega))
      · obtain ⟨hhb, hh10⟩ := hh b (by omega) hr
        have hrb : rp2 (h b) = rL g 37 (h b) := h3 (h b) hh10 (fun c hc hx e => by
          have := hinj c b (by omega) (by omega) hx hr e; omega)
        have ih := ih (b + 1) (by omega) (by omega) (vp_updL rp2 (h b) (rL g 37 (h b) + d)) (vp_updL cp2 b (rL g 38 b - d)) sl2 (fun c hc hx => by
          by_cases e : c = b
          · subst e; rw [pk_uLs, pk_uLs]; exact ⟨rfl, rfl⟩
          · rw [pk_uLn e, pk_uLn (fun e2 => e (hinj c b (by omega) (by omega) hx hr e2))]; exact h1 c (by omega) hx) (fun c hc hx => by
          by_cases e : c = b
          · rw [e] at hx; exact absurd hx hr
          · rw [pk_uLn e]; exact h2 c (by omega) hx) (fun i hi hx => by
          rw [pk_uLn (fun e => hx b (by omega) hr e.symm)]; exact h3 i hi (fun c hc => hx c (by omega))) (fun c hc => by rw [pk_uLn (by omega)]; exact h4 c (by omega))
        apply hR 60
        simp (maxSteps := 10000000) (disch := omega) only [hS, hn, sm_eqs, hf, ha, sm_b0, Int.reduceToNat, ↓reduceIte, Nat.reduceEqDiff, true_and, and_true, List.length_nil, List.length_cons, Nat.reduceAdd, Nat.reduceLeDiff, Nat.zero_le, false_implies, true_implies, not_true_eq_false, not_false_eq_true, implies_true, Nat.reduceSub, Nat.reduceMul, Nat.reduceDiv, reduceCtorEq, tn_clamp, nI_t, tn_nI, nI_add, pk_mul, rS_gS, rS_gA, rS_gL, rA_gS, rA_gA, rA_gL, rL_gS, rL_gA, rL_gL, and_self, and_false, false_and, if_true, if_false, true_or, or_true, or_false, false_or, sm_in, eqI, sI_s, Int32.toInt_zero, Int.natCast_zero, Int.natCast_one, Int.cast_ofNat_Int, Int.reduceEq, Int.reduceLT, Int.reduceLE, Int.reduceNeg, Int.reduceNe, ne_eq, n_up, g_up, e_cat, fr_A, fr_O, fr_P, fr_L, sp_X1_holderOf, hN, hr, hcb, fr_hd, hhb, hrb]
        clear hn hf ha hS hR hs h1 h2 h3 h4
        repeat' (first | (refine And.intro ?_ ?_) | (intro _))
        all_goals (first | with_reducible assumption | omega | (exfalso; omega))
  have h0 := loop _ 0 rfl (by omega) (rL g 37) (rL g 38) (rL g 39) (fun a a1 => by omega) (fun a a1 => by omega) (fun _ _ _ => rfl) (fun _ _ => ⟨rfl, rfl⟩)
  rw [gL_self, gL_self, gL_self] at h0
  apply hR 40
  simp (maxSteps := 10000000) (disch := omega) only [hS, hn, sm_eqs, hf, ha, sm_b0, Int.reduceToNat, ↓reduceIte, Nat.reduceEqDiff, true_and, and_true, List.length_nil, List.length_cons, Nat.reduceAdd, Nat.reduceLeDiff, Nat.zero_le, false_implies, true_implies, not_true_eq_false, not_false_eq_true, implies_true, Nat.reduceSub, Nat.reduceMul, Nat.reduceDiv, reduceCtorEq, tn_clamp, nI_t, tn_nI, nI_add, pk_mul, rS_gS, rS_gA, rS_gL, rA_gS, rA_gA, rA_gL, rL_gS, rL_gA, rL_gL, and_self, and_false, false_and, if_true, if_false, true_or, or_true, or_false, false_or, sm_in, eqI, sI_s, Int32.toInt_zero, Int.natCast_zero, Int.natCast_one, Int.cast_ofNat_Int, Int.reduceEq, Int.reduceLT, Int.reduceLE, Int.reduceNeg, Int.reduceNe, ne_eq, n_up, g_up, e_cat, fr_A, fr_O, fr_P, fr_L, sp_X1_holderOf]
  exact h0
theorem ok_X1_changePrices (l : Launch) : sm_spok l lay sm_mt 2 22 sp_X1_changePrices := Or.inr (Or.inr (Or.inr ⟨by decide, by decide, by
  rw [mt_22]
  exact sm_method (T := TX1_) v_cok v_lok v_ka v_tok_X1 mok_X1_changePrices rfl (by unfold sm_rk; simp) wf_X1_changePrices (List.forall_mem_cons.mpr ⟨sm_spok_up (Nat.le_of_ble_eq_true rfl : 1 ≤ 1) (ok_X1_holderOf l), fun _ h => absurd h List.not_mem_nil⟩) b_X1_changePrices⟩))
