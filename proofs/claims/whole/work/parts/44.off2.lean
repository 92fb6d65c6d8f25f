/-! The office's own methods: fitting, groups, asking. -/
/-- the things that a report fits, and that are not out -/
noncomputable def ftC (g : sm_G) (r t : Nat) : Prop := (rA g 23 t).toInt = -1 ∧ fitC g r t
theorem bc_sOf (f : Nat → Bool) {n : Nat} (hn : n ≤ 60) : bc64 (sOf f n) = nI (cnt f n) ∧ cnt (bitL (sOf f n)) 60 = cnt f n := by
  have h : ∀ m, n ≤ m → m ≤ 64 → cnt (bitL (sOf f n)) m = cnt f n := fun m h1 h2 => by
    rw [cnt_congr (h := fun i => decide (i < n) && f i) m (fun i hi => bit_sOf f i n (by omega))]
    have : ∀ k, cnt (fun i => decide (i < n) && f i) (n + k) = cnt f n := by
      intro k
      induction k with
      | zero => exact cnt_congr n (fun i hi => by simp [hi])
      | succ k ih =>
        show cnt (fun i => decide (i < n) && f i) (n + k) + (if (decide (n + k < n) && f (n + k)) = true then 1 else 0) = _
        rw [ih, if_neg (by simp; omega)]; rfl
    have := this (m - n)
    rw [show n + (m - n) = m by omega] at this
    exact this
  refine ⟨?_, h 60 hn (by omega)⟩
  rw [(bc64_eq _).1, h 64 (by omega) (Nat.le_refl _)]
def sp_X9_fitting : sm_SP := fun as g K => match as with
  | [.ref p, .int r] => p = 0 ∧ zR g ∧ zT g ∧ wQ g ∧ wL g 6 ∧ wL g 9 ∧ (okR g r → K (some (.int (nI (cnt (fun t => dc (ftC g (tn r) t)) (nT g))))) g) ∧ (¬ okR g r → K (some (.int (sI 0))) g)
  | _ => False
theorem wf_X9_fitting : sm_wf lay (yX9_fitting, cX9_fitting, 2, (some .int)) 2 false sp_X9_fitting := by
  intro as g K h
  simp only [sp_X9_fitting] at h
  split at h
  · exact ⟨Nat.le_of_ble_eq_true rfl, by simp, rfl, fun _ => by obtain rfl := h.1; exact ⟨0, _, 9, [3, 8, 11, 14, 17, 27, 33, 35, 48, 52, 53, 1], TX9, 12, rfl, rfl, rfl⟩⟩
  · exact h.elim
set_option maxHeartbeats 4000000 in
set_option maxRecDepth 100000 in
theorem b_X9_fitting : sm_body lay NX9_fitting 2 0 (sm_cl [(76, sp_X6_has), (58, sp_X4_fitSet), (227, sp_J13_bitCount_95d88)]) sp_X9_fitting := by
  intro K J S hW as g hs
  have hn := n_X9_fitting
  have hf := fd_all
  have ha := ar_all
  generalize NX9_fitting = N at hn hW
  generalize lay = L at hf ha hW
  obtain ⟨hS, hR⟩ := hW
  simp only [sp_X9_fitting] at hs
  split at hs
  case h_2 => exact hs.elim
  simp only [e_args, sm_pad, List.length_cons, List.length_nil, Nat.reduceAdd, Nat.reduceSub, List.replicate_succ, List.replicate_zero, List.cons_append, List.nil_append]
  rename_i p r
  obtain ⟨rfl, zr, zt, w, l6, l9, h1, h2⟩ := hs
  have fr := fun h => okR_60 (r := r) zr h
  have hb := (bc_sOf (fun t => dc ((rA g 23 t).toInt = -1 ∧ fitC g (tn r) t)) zt.2).1
  unfold ftC at h1
  apply hR 60
  simp (maxSteps := 10000000) (disch := omega) only [hS, hn, sm_eqs, hf, ha, sm_b0, Int.reduceToNat, ↓reduceIte, Nat.reduceEqDiff, true_and, and_true, List.length_nil, List.length_cons, Nat.reduceAdd, Nat.reduceLeDiff, Nat.zero_le, false_implies, true_implies, not_true_eq_false, not_false_eq_true, implies_true, Nat.reduceSub, Nat.reduceMul, Nat.reduceDiv, reduceCtorEq, tn_clamp, nI_t, tn_nI, nI_add, pk_mul, rS_gS, rS_gA, rS_gL, rA_gS, rA_gA, rA_gL, rL_gS, rL_gA, rL_gL, and_self, and_false, false_and, if_true, if_false, true_or, or_true, or_false, false_or, sm_in, eqI, sI_s, Int32.toInt_zero, Int.natCast_zero, Int.natCast_one, Int.cast_ofNat_Int, Int.reduceEq, Int.reduceLT, Int.reduceLE, Int.reduceNeg, Int.reduceNe, ne_eq, n_up, g_up, e_cat, fr_A, fr_O, fr_P, fr_L, sp_X6_has, sp_X4_fitSet, sp_J13_bitCount_95d88, zr, zt, w, l6, l9, hb]
  clear hn hf ha hS hR hb
  grind
theorem ok_X9_fitting (l : Launch) : sm_spok l lay sm_mt 5 130 sp_X9_fitting := Or.inr (Or.inr (Or.inr ⟨by decide, by decide, by
  rw [mt_130]
  exact sm_method (T := TX9_) v_cok v_lok v_ka v_tok_X9 mok_X9_fitting rfl (by unfold sm_rk; simp) wf_X9_fitting (List.forall_mem_cons.mpr ⟨sm_spok_up (Nat.le_of_ble_eq_true rfl : 1 ≤ 4) (ok_X6_has l), List.forall_mem_cons.mpr ⟨sm_spok_up (Nat.le_of_ble_eq_true rfl : 4 ≤ 4) (ok_X4_fitSet l), List.forall_mem_cons.mpr ⟨sm_spok_up (Nat.le_of_ble_eq_true rfl : 1 ≤ 4) (ok_J13_bitCount_95d88 l), fun _ h => absurd h List.not_mem_nil⟩⟩⟩) b_X9_fitting⟩))
/-- the k-th of those below n that a test holds of -/
def kth (f : Nat → Bool) (k : Nat) : Nat → Option Nat
  | 0 => none
  | n + 1 => match kth f k n with
    | some t => some t
    | none => if f n = true ∧ cnt f n = k then some n else none
def sp_X9_fit : sm_SP := fun as g K => match as with
  | [.ref p, .int r, .int k] => p = 0 ∧ zR g ∧ zT g ∧ wQ g ∧ wL g 6 ∧ wL g 9 ∧ (okR g r ∧ 0 ≤ k.toInt → K (some (.int (oI (kth (fun t => dc (ftC g (tn r) t)) (tn k) (nT g))))) g) ∧ (¬ (okR g r ∧ 0 ≤ k.toInt) → K (some (.int (sI 0))) g)
  | _ => False
theorem wf_X9_fit : sm_wf lay (yX9_fit, cX9_fit, 7, (some .int)) 3 false sp_X9_fit := by
  intro as g K h
  simp only [sp_X9_fit] at h
  split at h
  · exact ⟨Nat.le_of_ble_eq_true rfl, by simp, rfl, fun _ => by obtain rfl := h.1; exact ⟨0, _, 9, [3, 8, 11, 14, 17, 27, 33, 35, 48, 52, 53, 1], TX9, 12, rfl, rfl, rfl⟩⟩
  · exact h.elim
set_option maxHeartbeats 4000000 in
set_option maxRecDepth 100000 in
theorem b_X9_fit : sm_body lay NX9_fit 7 0 (sm_cl [(76, sp_X6_has), (58, sp_X4_fitSet), (132, sp_X9_isIn)]) sp_X9_fit := by
  intro K J S hW as g hs
  have hn := n_X9_fit
  have hf := fd_all
  have ha := ar_all
  generalize NX9_fit = N at hn hW
  generalize lay = L at hf ha hW
  obtain ⟨hS, hR⟩ := hW
  simp only [sp_X9_fit] at hs
  split at hs
  case h_2 => exact hs.elim
  simp only [e_args, sm_pad, List.length_cons, List.length_nil, Nat.reduceAdd, Nat.reduceSub, List.replicate_succ, List.replicate_zero, List.cons_append, List.nil_append]
  rename_i p r k
  obtain ⟨rfl, zr, zt, w, l6, l9, h1, h2⟩ := hs
  have fr := fun h => okR_60 (r := r) zr h
  have z3 := zt.2
  by_cases hc : okR g r ∧ 0 ≤ k.toInt
  · replace h1 := h1 hc
    obtain ⟨kk, hkk, ek⟩ : ∃ kk : Nat, kk < 2147483648 ∧ k = nI kk := ⟨tn k, by have := Int32.toInt_lt k; unfold tn; omega, nI_tn hc.2⟩
    rw [ek, tn_nI (by omega)] at h1
    subst ek
    clear h2
    obtain ⟨f, hfd⟩ : ∃ f : Nat → Bool, f = fun t => dc (ftC g (tn r) t) := ⟨_, rfl⟩
    rw [← hfd] at h1
    have hbit : ∀ t, bitL (sOf (fun t => dc ((rA g 23 t).toInt = -1 ∧ fitC g (tn r) t)) (nT g)) t = (decide (t < nT g) && f t) := fun t => by rw [hfd]; exact bit_sOf _ t _ (by omega)
    generalize hs0 : sOf (fun t => dc ((rA g 23 t).toInt = -1 ∧ fitC g (tn r) t)) (nT g) = s at hbit
    have loop : ∀ m t, m = 60 - t → t ≤ 60 → kth f kk (if t < nT g then t else nT g) = none → ∀ l, (t < nT g → l + cnt f t = kk) → l ≤ kk → J 32 [some (.ref 0), some (.int r), some (.int (nI kk)), some (.long s), none, some (.int (nI l)), some (.int (nI t))] [] g := by
      intro m
      induction m with
      | zero =>
        intro t hm ht hkn l hl hlk
        obtain rfl : t = 60 := by omega
        rw [if_neg (by omega)] at hkn
        rw [hkn] at h1
        have h1 : K (some (.int (sI 0))) g := h1
        apply hR 60
        simp (maxSteps := 10000000) (disch := omega) only [hS, hn, sm_eqs, hf, ha, sm_b0, Int.reduceToNat, ↓reduceIte, Nat.reduceEqDiff, true_and, and_true, List.length_nil, List.length_cons, Nat.reduceAdd, Nat.reduceLeDiff, Nat.zero_le, false_implies, true_implies, not_true_eq_false, not_false_eq_true, implies_true, Nat.reduceSub, Nat.reduceMul, Nat.reduceDiv, reduceCtorEq, tn_clamp, nI_t, tn_nI, nI_add, pk_mul, rS_gS, rS_gA, rS_gL, rA_gS, rA_gA, rA_gL, rL_gS, rL_gA, rL_gL, and_self, and_false, false_and, if_true, if_false, true_or, or_true, or_false, false_or, sm_in, eqI, sI_s, Int32.toInt_zero, Int.natCast_zero, Int.natCast_one, Int.cast_ofNat_Int, Int.reduceEq, Int.reduceLT, Int.reduceLE, Int.reduceNeg, Int.reduceNe, ne_eq, n_up, g_up, e_cat, fr_A, fr_O, fr_P, fr_L, sp_X6_has, sp_X4_fitSet, sp_X9_isIn]
        clear hn hf ha hS hR
        repeat' (first | (refine And.intro ?_ ?_) | (intro _))
        all_goals (first | with_reducible assumption | omega | (exfalso; omega))
      | succ m ih =>
        intro t hm ht hkn l hl hlk
        have hb := hbit t
        by_cases htn : t < nT g
        · rw [if_pos htn] at hkn
          have hcl := hl htn
          have hkt : kth f kk (t + 1) = if f t = true ∧ cnt f t = kk then some t else none := by
            simp only [kth]; rw [hkn]
          have hc1 : cnt f (t + 1) = cnt f t + (if f t = true then 1 else 0) := rfl
          rw [decide_eq_true htn, Bool.true_and] at hb
          by_cases hft : f t = true
          · rw [hft] at hb
            rw [hft, if_pos rfl] at hc1
            by_cases hl0 : l = 0
            · have h1 : K (some (.int (nI t))) g := by
                have hx : kth f kk (t + 1) = some t := by rw [hkt, if_pos ⟨hft, by omega⟩]
                have hy : ∀ j, kth f kk (t + 1 + j) = some t := by
                  intro j
                  induction j with
                  | zero => exact hx
                  | succ j ih =>
                    show kth f kk ((t + 1 + j) + 1) = some t
                    simp only [kth]; rw [ih]
                have hz := hy (nT g - (t + 1))
                rw [show t + 1 + (nT g - (t + 1)) = nT g by omega] at hz
                rw [hz] at h1; exact h1
              subst hl0
              clear ih
              apply hR 60
              simp (maxSteps := 10000000) (disch := omega) only [hS, hn, sm_eqs, hf, ha, sm_b0, Int.reduceToNat, ↓reduceIte, Nat.reduceEqDiff, true_and, and_true, List.length_nil, List.length_cons, Nat.reduceAdd, Nat.reduceLeDiff, Nat.zero_le, false_implies, true_implies, not_true_eq_false, not_false_eq_true, implies_true, Nat.reduceSub, Nat.reduceMul, Nat.reduceDiv, reduceCtorEq, tn_clamp, nI_t, tn_nI, nI_add, pk_mul, rS_gS, rS_gA, rS_gL, rA_gS, rA_gA, rA_gL, rL_gS, rL_gA, rL_gL, and_self, and_false, false_and, if_true, if_false, true_or, or_true, or_false, false_or, sm_in, eqI, sI_s, Int32.toInt_zero, Int.natCast_zero, Int.natCast_one, Int.cast_ofNat_Int, Int.reduceEq, Int.reduceLT, Int.reduceLE, Int.reduceNeg, Int.reduceNe, ne_eq, n_up, g_up, e_cat, fr_A, fr_O, fr_P, fr_L, sp_X6_has, sp_X4_fitSet, sp_X9_isIn, hb]
              clear hn hf ha hS hR
              repeat' (first | (refine And.intro ?_ ?_) | (intro _))
              all_goals (first | with_reducible assumption | omega | (exfalso; omega))
            · have ih := ih (t + 1) (by omega) (by omega) (by
                have hx : kth f kk (t + 1) = none := by rw [hkt, if_neg (show ¬ (f t = true ∧ cnt f t = kk) from fun h => by have := h.2; omega)]
                by_cases h9 : t + 1 < nT g
                · rw [if_pos h9]; exact hx
                · rw [if_neg h9, show nT g = t + 1 by omega]; exact hx) (l - 1) (fun _ => by omega) (by omega)
              have el : nI l + Int32.ofInt (-1) = nI (l - 1) := by
                show nI l + sI 0 = nI (l - 1)
                apply Int32.toInt_inj.mp
                rw [Int32.toInt_add, sI_s.1, nI_t (by omega), nI_t (by omega), Int.bmod_eq_of_le (by omega) (by omega)]
                omega
              clear h1
              apply hR 60
              simp (maxSteps := 10000000) (disch := omega) only [hS, hn, sm_eqs, hf, ha, sm_b0, Int.reduceToNat, ↓reduceIte, Nat.reduceEqDiff, true_and, and_true, List.length_nil, List.length_cons, Nat.reduceAdd, Nat.reduceLeDiff, Nat.zero_le, false_implies, true_implies, not_true_eq_false, not_false_eq_true, implies_true, Nat.reduceSub, Nat.reduceMul, Nat.reduceDiv, reduceCtorEq, tn_clamp, nI_t, tn_nI, nI_add, pk_mul, rS_gS, rS_gA, rS_gL, rA_gS, rA_gA, rA_gL, rL_gS, rL_gA, rL_gL, and_self, and_false, false_and, if_true, if_false, true_or, or_true, or_false, false_or, sm_in, eqI, sI_s, Int32.toInt_zero, Int.natCast_zero, Int.natCast_one, Int.cast_ofNat_Int, Int.reduceEq, Int.reduceLT, Int.reduceLE, Int.reduceNeg, Int.reduceNe, ne_eq, n_up, g_up, e_cat, fr_A, fr_O, fr_P, fr_L, sp_X6_has, sp_X4_fitSet, sp_X9_isIn, hb, el]
              clear hn hf ha hS hR
              repeat' (first | (refine And.intro ?_ ?_) | (intro _))
              all_goals (first | with_reducible assumption | omega | (exfalso; omega))
          · have hff : f t = false := by simpa using hft
            rw [hff] at hb
            rw [hff, if_neg (by decide)] at hc1
            have ih := ih (t + 1) (by omega) (by omega) (by
                have hx : kth f kk (t + 1) = none := by rw [hkt, if_neg (fun h => hft h.1)]
                by_cases h9 : t + 1 < nT g
                · rw [if_pos h9]; exact hx
                · rw [if_neg h9, show nT g = t + 1 by omega]; exact hx) l (fun _ => by omega) hlk
            clear h1
            apply hR 60
            simp (maxSteps := 10000000) (disch := omega) only [hS, hn, sm_eqs, hf, ha, sm_b0, Int.reduceToNat, ↓reduceIte, Nat.reduceEqDiff, true_and, and_true, List.length_nil, List.length_cons, Nat.reduceAdd, Nat.reduceLeDiff, Nat.zero_le, false_implies, true_implies, not_true_eq_false, not_false_eq_true, implies_true, Nat.reduceSub, Nat.reduceMul, Nat.reduceDiv, reduceCtorEq, tn_clamp, nI_t, tn_nI, nI_add, pk_mul, rS_gS, rS_gA, rS_gL, rA_gS, rA_gA, rA_gL, rL_gS, rL_gA, rL_gL, and_self, and_false, false_and, if_true, if_false, true_or, or_true, or_false, false_or, sm_in, eqI, sI_s, Int32.toInt_zero, Int.natCast_zero, Int.natCast_one, Int.cast_ofNat_Int, Int.reduceEq, Int.reduceLT, Int.reduceLE, Int.reduceNeg, Int.reduceNe, ne_eq, n_up, g_up, e_cat, fr_A, fr_O, fr_P, fr_L, sp_X6_has, sp_X4_fitSet, sp_X9_isIn, hb]
            clear hn hf ha hS hR
            repeat' (first | (refine And.intro ?_ ?_) | (intro _))
            all_goals (first | with_reducible assumption | omega | (exfalso; omega))
        · rw [decide_eq_false htn, Bool.false_and] at hb
          rw [if_neg htn] at hkn
          have ih := ih (t + 1) (by omega) (by omega) (by rw [if_neg (by omega)]; exact hkn) l (fun h => by omega) hlk
          clear h1
          apply hR 60
          simp (maxSteps := 10000000) (disch := omega) only [hS, hn, sm_eqs, hf, ha, sm_b0, Int.reduceToNat, ↓reduceIte, Nat.reduceEqDiff, true_and, and_true, List.length_nil, List.length_cons, Nat.reduceAdd, Nat.reduceLeDiff, Nat.zero_le, false_implies, true_implies, not_true_eq_false, not_false_eq_true, implies_true, Nat.reduceSub, Nat.reduceMul, Nat.reduceDiv, reduceCtorEq, tn_clamp, nI_t, tn_nI, nI_add, pk_mul, rS_gS, rS_gA, rS_gL, rA_gS, rA_gA, rA_gL, rL_gS, rL_gA, rL_gL, and_self, and_false, false_and, if_true, if_false, true_or, or_true, or_false, false_or, sm_in, eqI, sI_s, Int32.toInt_zero, Int.natCast_zero, Int.natCast_one, Int.cast_ofNat_Int, Int.reduceEq, Int.reduceLT, Int.reduceLE, Int.reduceNeg, Int.reduceNe, ne_eq, n_up, g_up, e_cat, fr_A, fr_O, fr_P, fr_L, sp_X6_has, sp_X4_fitSet, sp_X9_isIn, hb]
          clear hn hf ha hS hR
          repeat' (first | (refine And.intro ?_ ?_) | (intro _))
          all_goals (first | with_reducible assumption | omega | (exfalso; omega))
    have h9 := loop _ 0 rfl (Nat.zero_le _) (by
      split
      · rfl
      · rw [show nT g = 0 by omega]; rfl) kk (fun _ => by show kk + 0 = kk; omega) (Nat.le_refl _)
    clear h1 loop hfd
    have hkz : ¬ (kk : Int) < 0 := by omega
    apply hR 60
    simp (maxSteps := 10000000) (disch := omega) only [hS, hn, sm_eqs, hf, ha, sm_b0, Int.reduceToNat, ↓reduceIte, Nat.reduceEqDiff, true_and, and_true, List.length_nil, List.length_cons, Nat.reduceAdd, Nat.reduceLeDiff, Nat.zero_le, false_implies, true_implies, not_true_eq_false, not_false_eq_true, implies_true, Nat.reduceSub, Nat.reduceMul, Nat.reduceDiv, reduceCtorEq, tn_clamp, nI_t, tn_nI, nI_add, pk_mul, rS_gS, rS_gA, rS_gL, rA_gS, rA_gA, rA_gL, rL_gS, rL_gA, rL_gL, and_self, and_false, false_and, if_true, if_false, true_or, or_true, or_false, false_or, sm_in, eqI, sI_s, Int32.toInt_zero, Int.natCast_zero, Int.natCast_one, Int.cast_ofNat_Int, Int.reduceEq, Int.reduceLT, Int.reduceLE, Int.reduceNeg, Int.reduceNe, ne_eq, n_up, g_up, e_cat, fr_A, fr_O, fr_P, fr_L, sp_X6_has, sp_X4_fitSet, sp_X9_isIn, zr, zt, w, l6, l9, hs0, hkz]
    clear hn hf ha hS hR
    grind
  · have h2 := h2 hc
    have hc2 : okR g r → ¬ 0 ≤ k.toInt := fun h h3 => hc ⟨h, h3⟩
    apply hR 60
    simp (maxSteps := 10000000) (disch := omega) only [hS, hn, sm_eqs, hf, ha, sm_b0, Int.reduceToNat, ↓reduceIte, Nat.reduceEqDiff, true_and, and_true, List.length_nil, List.length_cons, Nat.reduceAdd, Nat.reduceLeDiff, Nat.zero_le, false_implies, true_implies, not_true_eq_false, not_false_eq_true, implies_true, Nat.reduceSub, Nat.reduceMul, Nat.reduceDiv, reduceCtorEq, tn_clamp, nI_t, tn_nI, nI_add, pk_mul, rS_gS, rS_gA, rS_gL, rA_gS, rA_gA, rA_gL, rL_gS, rL_gA, rL_gL, and_self, and_false, false_and, if_true, if_false, true_or, or_true, or_false, false_or, sm_in, eqI, sI_s, Int32.toInt_zero, Int.natCast_zero, Int.natCast_one, Int.cast_ofNat_Int, Int.reduceEq, Int.reduceLT, Int.reduceLE, Int.reduceNeg, Int.reduceNe, ne_eq, n_up, g_up, e_cat, fr_A, fr_O, fr_P, fr_L, sp_X6_has, sp_X4_fitSet, sp_X9_isIn, zr]
    clear hn hf ha hS hR
    grind
theorem ok_X9_fit (l : Launch) : sm_spok l lay sm_mt 5 131 sp_X9_fit := Or.inr (Or.inr (Or.inr ⟨by decide, by decide, by
  rw [mt_131]
  exact sm_method (T := TX9_) v_cok v_lok v_ka v_tok_X9 mok_X9_fit rfl (by unfold sm_rk; simp) wf_X9_fit (List.forall_mem_cons.mpr ⟨sm_spok_up (Nat.le_of_ble_eq_true rfl : 1 ≤ 4) (ok_X6_has l), List.forall_mem_cons.mpr ⟨sm_spok_up (Nat.le_of_ble_eq_true rfl : 4 ≤ 4) (ok_X4_fitSet l), List.forall_mem_cons.mpr ⟨sm_spok_up (Nat.le_of_ble_eq_true rfl : 1 ≤ 4) (ok_X9_isIn l), fun _ h => absurd h List.not_mem_nil⟩⟩⟩) b_X9_fit⟩))
def sp_X9_like : sm_SP := fun as g K => match as with
  | [.ref p, .int a, .int b] => p = 0 ∧ zT g ∧ zQ g ∧ (okT g a ∧ okT g b ∧ alk g (tn a) (tn b) → K (some (.int (nI 1))) g) ∧ (okT g a ∧ okT g b ∧ ¬ alk g (tn a) (tn b) → K (some (.int (nI 0))) g) ∧ (¬ (okT g a ∧ okT g b) → K (some (.int (sI 0))) g)
  | _ => False
theorem wf_X9_like : sm_wf lay (yX9_like, cX9_like, 3, (some .int)) 3 false sp_X9_like := by
  intro as g K h
  simp only [sp_X9_like] at h
  split at h
  · exact ⟨Nat.le_of_ble_eq_true rfl, by simp, rfl, fun _ => by obtain rfl := h.1; exact ⟨0, _, 9, [3, 8, 11, 14, 17, 27, 33, 35, 48, 52, 53, 1], TX9, 12, rfl, rfl, rfl⟩⟩
  · exact h.elim
set_option maxHeartbeats 4000000 in
set_option maxRecDepth 100000 in
theorem b_X9_like : sm_body lay NX9_like 3 0 (sm_cl [(91, sp_X8_has), (2, sp_X0_isAlike)]) sp_X9_like := by
  intro K J S hW as g hs
  have hn := n_X9_like
  have hf := fd_all
  have ha := ar_all
  generalize NX9_like = N at hn hW
  generalize lay = L at hf ha hW
  obtain ⟨hS, hR⟩ := hW
  simp only [sp_X9_like] at hs
  split at hs
  case h_2 => exact hs.elim
  simp only [e_args, sm_pad, List.length_cons, List.length_nil, Nat.reduceAdd, Nat.reduceSub, List.replicate_succ, List.replicate_zero, List.cons_append, List.nil_append]
  rename_i p a b
  obtain ⟨rfl, zt, zq, h1, h2, h3⟩ := hs
  have fa := fun h => okT_60 (t := a) zt h
  have fb := fun h => okT_60 (t := b) zt h
  apply hR 60
  simp (maxSteps := 10000000) (disch := omega) only [hS, hn, sm_eqs, hf, ha, sm_b0, Int.reduceToNat, ↓reduceIte, Nat.reduceEqDiff, true_and, and_true, List.length_nil, List.length_cons, Nat.reduceAdd, Nat.reduceLeDiff, Nat.zero_le, false_implies, true_implies, not_true_eq_false, not_false_eq_true, implies_true, Nat.reduceSub, Nat.reduceMul, Nat.reduceDiv, reduceCtorEq, tn_clamp, nI_t, tn_nI, nI_add, pk_mul, rS_gS, rS_gA, rS_gL, rA_gS, rA_gA, rA_gL, rL_gS, rL_gA, rL_gL, and_self, and_false, false_and, if_true, if_false, true_or, or_true, or_false, false_or, sm_in, eqI, sI_s, Int32.toInt_zero, Int.natCast_zero, Int.natCast_one, Int.cast_ofNat_Int, Int.reduceEq, Int.reduceLT, Int.reduceLE, Int.reduceNeg, Int.reduceNe, ne_eq, n_up, g_up, e_cat, fr_A, fr_O, fr_P, fr_L, sp_X8_has, sp_X0_isAlike, zt, zq]
  clear hn hf ha hS hR
  grind
theorem ok_X9_like (l : Launch) : sm_spok l lay sm_mt 4 138 sp_X9_like := Or.inr (Or.inr (Or.inr ⟨by decide, by decide, by
  rw [mt_138]
  exact sm_method (T := TX9_) v_cok v_lok v_ka v_tok_X9 mok_X9_like rfl (by unfold sm_rk; simp) wf_X9_like (List.forall_mem_cons.mpr ⟨sm_spok_up (Nat.le_of_ble_eq_true rfl : 1 ≤ 3) (ok_X8_has l), List.forall_mem_cons.mpr ⟨sm_spok_up (Nat.le_of_ble_eq_true rfl : 3 ≤ 3) (ok_X0_isAlike l), fun _ h => absurd h List.not_mem_nil⟩⟩) b_X9_like⟩))
/-- the set of the things that a report fits -/
noncomputable def ftS (g : sm_G) (r : Nat) : Int64 := sOf (fun t => dc (ftC g r t)) (nT g)
def sp_X9_parts : sm_SP := fun as g K => match as with
  | [.ref p, .int r, .int q] => p = 0 ∧ zR g ∧ zT g ∧ wQ g ∧ wL g 6 ∧ wL g 9 ∧ (okR g r ∧ okQ g q → K (some (.int (nI (clsN g (ftS g (tn r)) (tn q))))) g) ∧ (¬ (okR g r ∧ okQ g q) → K (some (.int (sI 0))) g)
  | _ => False
theorem wf_X9_parts : sm_wf lay (yX9_parts, cX9_parts, 3, (some .int)) 3 false sp_X9_parts := by
  intro as g K h
  simp only [sp_X9_parts] at h
  split at h
  · exact ⟨Nat.le_of_ble_eq_true rfl, by simp, rfl, fun _ => by obtain rfl := h.1; exact ⟨0, _, 9, [3, 8, 11, 14, 17, 27, 33, 35, 48, 52, 53, 1], TX9, 12, rfl, rfl, rfl⟩⟩
  · exact h.elim
set_option maxHeartbeats 4000000 in
set_option maxRecDepth 100000 in
theorem b_X9_parts : sm_body lay NX9_parts 3 0 (sm_cl [(76, sp_X6_has), (66, sp_X5_has), (58, sp_X4_fitSet), (3, sp_X0_countClasses)]) sp_X9_parts := by
  intro K J S hW as g hs
  have hn := n_X9_parts
  have hf := fd_all
  have ha := ar_all
  generalize NX9_parts = N at hn hW
  generalize lay = L at hf ha hW
  obtain ⟨hS, hR⟩ := hW
  simp only [sp_X9_parts] at hs
  split at hs
  case h_2 => exact hs.elim
  simp only [e_args, sm_pad, List.length_cons, List.length_nil, Nat.reduceAdd, Nat.reduceSub, List.replicate_succ, List.replicate_zero, List.cons_append, List.nil_append]
  rename_i p r q
  obtain ⟨rfl, zr, zt, w, l6, l9, h1, h2⟩ := hs
  have fr := fun h => okR_60 (r := r) zr h
  have fq := fun h => okQ_16 (q := q) w.1 h
  unfold ftS ftC at h1
  apply hR 60
  simp (maxSteps := 10000000) (disch := omega) only [hS, hn, sm_eqs, hf, ha, sm_b0, Int.reduceToNat, ↓reduceIte, Nat.reduceEqDiff, true_and, and_true, List.length_nil, List.length_cons, Nat.reduceAdd, Nat.reduceLeDiff, Nat.zero_le, false_implies, true_implies, not_true_eq_false, not_false_eq_true, implies_true, Nat.reduceSub, Nat.reduceMul, Nat.reduceDiv, reduceCtorEq, tn_clamp, nI_t, tn_nI, nI_add, pk_mul, rS_gS, rS_gA, rS_gL, rA_gS, rA_gA, rA_gL, rL_gS, rL_gA, rL_gL, and_self, and_false, false_and, if_true, if_false, true_or, or_true, or_false, false_or, sm_in, eqI, sI_s, Int32.toInt_zero, Int.natCast_zero, Int.natCast_one, Int.cast_ofNat_Int, Int.reduceEq, Int.reduceLT, Int.reduceLE, Int.reduceNeg, Int.reduceNe, ne_eq, n_up, g_up, e_cat, fr_A, fr_O, fr_P, fr_L, sp_X6_has, sp_X5_has, sp_X4_fitSet, sp_X0_countClasses, zr, zt, w, w.1, l6, l9]
  clear hn hf ha hS hR
  grind
theorem ok_X9_parts (l : Launch) : sm_spok l lay sm_mt 5 139 sp_X9_parts := Or.inr (Or.inr (Or.inr ⟨by decide, by decide, by
  rw [mt_139]
  exact sm_method (T := TX9_) v_cok v_lok v_ka v_tok_X9 mok_X9_parts rfl (by unfold sm_rk; simp) wf_X9_parts (List.forall_mem_cons.mpr ⟨sm_spok_up (Nat.le_of_ble_eq_true rfl : 1 ≤ 4) (ok_X6_has l), List.forall_mem_cons.mpr ⟨sm_spok_up (Nat.le_of_ble_eq_true rfl : 1 ≤ 4) (ok_X5_has l), List.forall_mem_cons.mpr ⟨sm_spok_up (Nat.le_of_ble_eq_true rfl : 4 ≤ 4) (ok_X4_fitSet l), List.forall_mem_cons.mpr ⟨sm_spok_up (Nat.le_of_ble_eq_true rfl : 4 ≤ 4) (ok_X0_countClasses l), fun _ h => absurd h List.not_mem_nil⟩⟩⟩⟩) b_X9_parts⟩))
def sp_X9_ask : sm_SP := fun as g K => match as with
  | [.ref p, .int r] => p = 0 ∧ zR g ∧ zT g ∧ wQ g ∧ wL g 6 ∧ wL g 9 ∧ (okR g r → K (some (.int (oI (mpq (clsN g (ftS g (tn r))) (nQ g)).1))) g) ∧ (¬ okR g r → K (some (.int (sI 0))) g)
  | _ => False
theorem wf_X9_ask : sm_wf lay (yX9_ask, cX9_ask, 2, (some .int)) 2 false sp_X9_ask := by
  intro as g K h
  simp only [sp_X9_ask] at h
  split at h
  · exact ⟨Nat.le_of_ble_eq_true rfl, by simp, rfl, fun _ => by obtain rfl := h.1; exact ⟨0, _, 9, [3, 8, 11, 14, 17, 27, 33, 35, 48, 52, 53, 1], TX9, 12, rfl, rfl, rfl⟩⟩
  · exact h.elim
set_option maxHeartbeats 4000000 in
set_option maxRecDepth 100000 in
theorem b_X9_ask : sm_body lay NX9_ask 2 0 (sm_cl [(76, sp_X6_has), (58, sp_X4_fitSet), (5, sp_X0_mostParting)]) sp_X9_ask := by
  intro K J S hW as g hs
  have hn := n_X9_ask
  have hf := fd_all
  have ha := ar_all
  generalize NX9_ask = N at hn hW
  generalize lay = L at hf ha hW
  obtain ⟨hS, hR⟩ := hW
  simp only [sp_X9_ask] at hs
  split at hs
  case h_2 => exact hs.elim
  simp only [e_args, sm_pad, List.length_cons, List.length_nil, Nat.reduceAdd, Nat.reduceSub, List.replicate_succ, List.replicate_zero, List.cons_append, List.nil_append]
  rename_i p r
  obtain ⟨rfl, zr, zt, w, l6, l9, h1, h2⟩ := hs
  have fr := fun h => okR_60 (r := r) zr h
  unfold ftS ftC at h1
  apply hR 60
  simp (maxSteps := 10000000) (disch := omega) only [hS, hn, sm_eqs, hf, ha, sm_b0, Int.reduceToNat, ↓reduceIte, Nat.reduceEqDiff, true_and, and_true, List.length_nil, List.length_cons, Nat.reduceAdd, Nat.reduceLeDiff, Nat.zero_le, false_implies, true_implies, not_true_eq_false, not_false_eq_true, implies_true, Nat.reduceSub, Nat.reduceMul, Nat.reduceDiv, reduceCtorEq, tn_clamp, nI_t, tn_nI, nI_add, pk_mul, rS_gS, rS_gA, rS_gL, rA_gS, rA_gA, rA_gL, rL_gS, rL_gA, rL_gL, and_self, and_false, false_and, if_true, if_false, true_or, or_true, or_false, false_or, sm_in, eqI, sI_s, Int32.toInt_zero, Int.natCast_zero, Int.natCast_one, Int.cast_ofNat_Int, Int.reduceEq, Int.reduceLT, Int.reduceLE, Int.reduceNeg, Int.reduceNe, ne_eq, n_up, g_up, e_cat, fr_A, fr_O, fr_P, fr_L, sp_X6_has, sp_X4_fitSet, sp_X0_mostParting, zr, zt, w, w.1, l6, l9]
  clear hn hf ha hS hR
  grind
theorem ok_X9_ask (l : Launch) : sm_spok l lay sm_mt 6 140 sp_X9_ask := Or.inr (Or.inr (Or.inr ⟨by decide, by decide, by
  rw [mt_140]
  exact sm_method (T := TX9_) v_cok v_lok v_ka v_tok_X9 mok_X9_ask rfl (by unfold sm_rk; simp) wf_X9_ask (List.forall_mem_cons.mpr ⟨sm_spok_up (Nat.le_of_ble_eq_true rfl : 1 ≤ 5) (ok_X6_has l), List.forall_mem_cons.mpr ⟨sm_spok_up (Nat.le_of_ble_eq_true rfl : 4 ≤ 5) (ok_X4_fitSet l), List.forall_mem_cons.mpr ⟨sm_spok_up (Nat.le_of_ble_eq_true rfl : 5 ≤ 5) (ok_X0_mostParting l), fun _ h => absurd h List.not_mem_nil⟩⟩⟩) b_X9_ask⟩))
def sp_X9_fewest : sm_SP := fun as g K => match as with
  | [.ref p, .int r] => p = 0 ∧ zR g ∧ zT g ∧ wQ g ∧ wL g 6 ∧ wL g 9 ∧ (okR g r ∧ 12 < cnt (fun t => dc (ftC g (tn r) t)) (nT g) → K (some (.int (sI 1))) g) ∧
      (okR g r ∧ ¬ 12 < cnt (fun t => dc (ftC g (tn r) t)) (nT g) → ∀ (D : Nat) (M cl fd : Nat → Int32) (k : Nat), k ≤ 12 → isNd (fun t q => (anC g 9 t q).toInt) 16 k (fun t => t < nT g ∧ ftC g (tn r) t) → K (some (.int (nI k))) (gS (gA (gA (gA g 47 M) 48 cl) 49 fd) 46 5 (nI D))) ∧
      (¬ okR g r → K (some (.int (sI 0))) g)
  | _ => False
theorem wf_X9_fewest : sm_wf lay (yX9_fewest, cX9_fewest, 4, (some .int)) 2 false sp_X9_fewest := by
  intro as g K h
  simp only [sp_X9_fewest] at h
  split at h
  · exact ⟨Nat.le_of_ble_eq_true rfl, by simp, rfl, fun _ => by obtain rfl := h.1; exact ⟨0, _, 9, [3, 8, 11, 14, 17, 27, 33, 35, 48, 52, 53, 1], TX9, 12, rfl, rfl, rfl⟩⟩
  · exact h.elim
set_option maxHeartbeats 4000000 in
set_option maxRecDepth 100000 in
theorem b_X9_fewest : sm_body lay NX9_fewest 4 0 (sm_cl [(76, sp_X6_has), (58, sp_X4_fitSet), (227, sp_J13_bitCount_95d88), (6, sp_X0_neededFor)]) sp_X9_fewest := by
  intro K J S hW as g hs
  have hn := n_X9_fewest
  have hf := fd_all
  have ha := ar_all
  generalize NX9_fewest = N at hn hW
  generalize lay = L at hf ha hW
  obtain ⟨hS, hR⟩ := hW
  simp only [sp_X9_fewest] at hs
  split at hs
  case h_2 => exact hs.elim
  simp only [e_args, sm_pad, List.length_cons, List.length_nil, Nat.reduceAdd, Nat.reduceSub, List.replicate_succ, List.replicate_zero, List.cons_append, List.nil_append]
  rename_i p r
  obtain ⟨rfl, zr, zt, w, l6, l9, h1, h2, h3⟩ := hs
  have fr := fun h => okR_60 (r := r) zr h
  have z3 := zt.2
  obtain ⟨hb, hb2⟩ := bc_sOf (fun t => dc ((rA g 23 t).toInt = -1 ∧ fitC g (tn r) t)) zt.2
  have hbit : ∀ t, (t < 60 ∧ bitL (sOf (fun t => dc ((rA g 23 t).toInt = -1 ∧ fitC g (tn r) t)) (nT g)) t = true) = (t < nT g ∧ ftC g (tn r) t) := fun t => by
    rw [bit_sOf _ _ _ (by omega), Bool.and_eq_true, decide_eq_true_eq, dc_t]
    exact propext ⟨fun h => h.2, fun h => ⟨by omega, h⟩⟩
  have hcl : cnt (fun t => dc ((rA g 23 t).toInt = -1 ∧ fitC g (tn r) t)) (nT g) ≤ 60 := by have := cnt_le (fun t => dc ((rA g 23 t).toInt = -1 ∧ fitC g (tn r) t)) (nT g); omega
  have hu : (fun t => dc (ftC g (tn r) t)) = (fun t => dc ((rA g 23 t).toInt = -1 ∧ fitC g (tn r) t)) := rfl
  rw [hu] at h1 h2
  apply hR 60
  simp (maxSteps := 10000000) (disch := omega) only [hS, hn, sm_eqs, hf, ha, sm_b0, Int.reduceToNat, ↓reduceIte, Nat.reduceEqDiff, true_and, and_true, List.length_nil, List.length_cons, Nat.reduceAdd, Nat.reduceLeDiff, Nat.zero_le, false_implies, true_implies, not_true_eq_false, not_false_eq_true, implies_true, Nat.reduceSub, Nat.reduceMul, Nat.reduceDiv, reduceCtorEq, tn_clamp, nI_t, tn_nI, nI_add, pk_mul, rS_gS, rS_gA, rS_gL, rA_gS, rA_gA, rA_gL, rL_gS, rL_gA, rL_gL, and_self, and_false, false_and, if_true, if_false, true_or, or_true, or_false, false_or, sm_in, eqI, sI_s, Int32.toInt_zero, Int.natCast_zero, Int.natCast_one, Int.cast_ofNat_Int, Int.reduceEq, Int.reduceLT, Int.reduceLE, Int.reduceNeg, Int.reduceNe, ne_eq, n_up, g_up, e_cat, fr_A, fr_O, fr_P, fr_L, sp_X6_has, sp_X4_fitSet, sp_J13_bitCount_95d88, sp_X0_neededFor, zr, zt, w, w.1, l6, l9, hb, hb2, hbit]
  clear hn hf ha hS hR hb hb2 hbit
  generalize cnt (fun t => dc ((rA g 23 t).toInt = -1 ∧ fitC g (tn r) t)) (nT g) = c at *
  grind
theorem ok_X9_fewest (l : Launch) : sm_spok l lay sm_mt 29 141 sp_X9_fewest := Or.inr (Or.inr (Or.inr ⟨by decide, by decide, by
  rw [mt_141]
  exact sm_method (T := TX9_) v_cok v_lok v_ka v_tok_X9 mok_X9_fewest rfl (by unfold sm_rk; simp) wf_X9_fewest (List.forall_mem_cons.mpr ⟨sm_spok_up (Nat.le_of_ble_eq_true rfl : 1 ≤ 28) (ok_X6_has l), List.forall_mem_cons.mpr ⟨sm_spok_up (Nat.le_of_ble_eq_true rfl : 4 ≤ 28) (ok_X4_fitSet l), List.forall_mem_cons.mpr ⟨sm_spok_up (Nat.le_of_ble_eq_true rfl : 1 ≤ 28) (ok_J13_bitCount_95d88 l), List.forall_mem_cons.mpr ⟨sm_spok_up (Nat.le_of_ble_eq_true rfl : 28 ≤ 28) (ok_X0_neededFor l), fun _ h => absurd h List.not_mem_nil⟩⟩⟩⟩) b_X9_fewest⟩))
def sp_X9_claim : sm_SP := fun as g K => match as with
  | [.ref p, .int r, .int t] => p = 0 ∧ iv g ∧ (¬ (okR g r ∧ rA g 14 (tn r) = nI 1) → K (some (.int (sI 0))) g) ∧ (okR g r ∧ rA g 14 (tn r) = nI 1 → (¬ okT g t → K (some (.int (sI 1))) g) ∧ (okT g t → (¬ whyC g (tn t) = -1 → K (some (.int (sI 2))) g) ∧ (whyC g (tn t) = -1 →
      (¬ fitC g (tn r) (tn t) → K (some (.int (sI 3))) g) ∧ (fitC g (tn r) (tn t) → ((∃ c, c < nC g ∧ (rA g 28 c).toInt ≤ 1 ∧ (rA g 26 c).toInt = r.toInt ∧ (rA g 27 c).toInt = t.toInt) → K (some (.int (sI 4))) g) ∧ ((¬ ∃ c, c < nC g ∧ (rA g 28 c).toInt ≤ 1 ∧ (rA g 26 c).toInt = r.toInt ∧ (rA g 27 c).toInt = t.toInt) →
      (¬ nC g < 100 → K (some (.int (sI 5))) g) ∧ (nC g < 100 → K (some (.int (nI (nC g)))) (gS (gA (gA (gA (gA (gA g 26 (upd (rA g 26) (nC g) r)) 27 (upd (rA g 27) (nC g) t)) 28 (upd (rA g 28) (nC g) (nI 0))) 29 (upd (rA g 29) (nC g) (nI 0))) 30 (upd (rA g 30) (tn t) (rA g 30 (tn t) + nI 1))) 25 205 (nI (nC g + 1)))))))))
  | _ => False
theorem wf_X9_claim : sm_wf lay (yX9_claim, cX9_claim, 3, (some .int)) 3 false sp_X9_claim := by
  intro as g K h
  simp only [sp_X9_claim] at h
  split at h
  · exact ⟨Nat.le_of_ble_eq_true rfl, by simp, rfl, fun _ => by obtain rfl := h.1; exact ⟨0, _, 9, [3, 8, 11, 14, 17, 27, 33, 35, 48, 52, 53, 1], TX9, 12, rfl, rfl, rfl⟩⟩
  · exact h.elim
set_option maxHeartbeats 4000000 in
set_option maxRecDepth 100000 in
theorem b_X9_claim : sm_body lay NX9_claim 3 0 (sm_cl [(77, sp_X6_isOpen), (91, sp_X8_has), (92, sp_X8_isHere), (57, sp_X4_isFit), (38, sp_X2_isClaimedBy), (29, sp_X2_isFull), (37, sp_X2_add)]) sp_X9_claim := by
  intro K J S hW as g hs
  have hn := n_X9_claim
  have hf := fd_all
  have ha := ar_all
  generalize NX9_claim = N at hn hW
  generalize lay = L at hf ha hW
  obtain ⟨hS, hR⟩ := hW
  simp only [sp_X9_claim] at hs
  split at hs
  case h_2 => exact hs.elim
  simp only [e_args, sm_pad, List.length_cons, List.length_nil, Nat.reduceAdd, Nat.reduceSub, List.replicate_succ, List.replicate_zero, List.cons_append, List.nil_append]
  rename_i p r t
  obtain ⟨rfl, iv, h⟩ := hs
  obtain ⟨zq, zr, zt, zo, zc⟩ := iv_z iv
  have w := iv_wQ iv
  obtain ⟨l6, l9⟩ := iv_wL iv
  have hop := iv.2.1.2.2.2.2.2
  have fr := fun h => okR_60 (r := r) zr h
  have ft := fun h => okT_60 (t := t) zt h
  unfold whyC at h
  have hh : hereC g t = (okT g t ∧ (rA g 23 (tn t)).toInt = -1) := rfl
  have ho : (rA g 14 (tn r) = nI 1) = ((rA g 14 (tn r)).toInt = 1) := by rw [eqI]; rfl
  rw [ho] at h
  have hop2 : ∀ i, (rA g 14 i).toInt = 0 ∨ (rA g 14 i).toInt = 1 := fun i => by rcases hop i with e | e <;> rw [e] <;> decide
  clear iv ho hop
  apply hR 60
  simp (maxSteps := 10000000) (disch := omega) only [hS, hn, sm_eqs, hf, ha, sm_b0, Int.reduceToNat, ↓reduceIte, Nat.reduceEqDiff, true_and, and_true, List.length_nil, List.length_cons, Nat.reduceAdd, Nat.reduceLeDiff, Nat.zero_le, false_implies, true_implies, not_true_eq_false, not_false_eq_true, implies_true, Nat.reduceSub, Nat.reduceMul, Nat.reduceDiv, reduceCtorEq, tn_clamp, nI_t, tn_nI, nI_add, pk_mul, rS_gS, rS_gA, rS_gL, rA_gS, rA_gA, rA_gL, rL_gS, rL_gA, rL_gL, and_self, and_false, false_and, if_true, if_false, true_or, or_true, or_false, false_or, sm_in, eqI, sI_s, Int32.toInt_zero, Int.natCast_zero, Int.natCast_one, Int.cast_ofNat_Int, Int.reduceEq, Int.reduceLT, Int.reduceLE, Int.reduceNeg, Int.reduceNe, ne_eq, n_up, g_up, e_cat, fr_A, fr_O, fr_P, fr_L, sp_X6_isOpen, sp_X8_has, sp_X8_isHere, sp_X4_isFit, sp_X2_isClaimedBy, sp_X2_isFull, sp_X2_add, zr, zt, zc, w, l6, l9, hh]
  clear hn hf ha hS hR
  refine ⟨hop2, ?_⟩
  clear hop2
  grind
theorem ok_X9_claim (l : Launch) : sm_spok l lay sm_mt 5 142 sp_X9_claim := Or.inr (Or.inr (Or.inr ⟨by decide, by decide, by
  rw [mt_142]
  exact sm_method (T := TX9_) v_cok v_lok v_ka v_tok_X9 mok_X9_claim rfl (by unfold sm_rk; simp) wf_X9_claim (List.forall_mem_cons.mpr ⟨sm_spok_up (Nat.le_of_ble_eq_true rfl : 2 ≤ 4) (ok_X6_isOpen l), List.forall_mem_cons.mpr ⟨sm_spok_up (Nat.le_of_ble_eq_true rfl : 1 ≤ 4) (ok_X8_has l), List.forall_mem_cons.mpr ⟨sm_spok_up (Nat.le_of_ble_eq_true rfl : 1 ≤ 4) (ok_X8_isHere l), List.forall_mem_cons.mpr ⟨sm_spok_up (Nat.le_of_ble_eq_true rfl : 4 ≤ 4) (ok_X4_isFit l), List.forall_mem_cons.mpr ⟨sm_spok_up (Nat.le_of_ble_eq_true rfl : 2 ≤ 4) (ok_X2_isClaimedBy l), List.forall_mem_cons.mpr ⟨sm_spok_up (Nat.le_of_ble_eq_true rfl : 1 ≤ 4) (ok_X2_isFull l), List.forall_mem_cons.mpr ⟨sm_spok_up (Nat.le_of_ble_eq_true rfl : 2 ≤ 4) (ok_X2_add l), fun _ h => absurd h List.not_mem_nil⟩⟩⟩⟩⟩⟩⟩) b_X9_claim⟩))
def sp_X9_prove : sm_SP := fun as g K => match as with
  | [.ref p, .int c, .int q, .int a] => p = 0 ∧ iv g ∧ (¬ stdC g c → K (some (.int (nI 1))) g) ∧ (stdC g c → (¬ okQ g q → K (some (.int (nI 2))) g) ∧ (okQ g q → ((aC g 6 (rA g 26 (tn c)) q).toInt ≠ -1 → K (some (.int (nI 3))) g) ∧ ((aC g 6 (rA g 26 (tn c)) q).toInt = -1 →
      ((aC g 9 (rA g 27 (tn c)) q).toInt = -1 → K (some (.int (nI 4))) g) ∧ ((aC g 9 (rA g 27 (tn c)) q).toInt ≠ -1 → (a.toInt ≠ (aC g 9 (rA g 27 (tn c)) q).toInt → K (some (.int (nI 5))) (fin g (tn c) (nI 3))) ∧ (a.toInt = (aC g 9 (rA g 27 (tn c)) q).toInt → K (some (.int (nI 0))) (gA g 28 (upd (rA g 28) (tn c) (nI 1))))))))
  | _ => False
theorem wf_X9_prove : sm_wf lay (yX9_prove, cX9_prove, 5, (some .int)) 4 false sp_X9_prove := by
  intro as g K h
  simp only [sp_X9_prove] at h
  split at h
  · exact ⟨Nat.le_of_ble_eq_true rfl, by simp, rfl, fun _ => by obtain rfl := h.1; exact ⟨0, _, 9, [3, 8, 11, 14, 17, 27, 33, 35, 48, 52, 53, 1], TX9, 12, rfl, rfl, rfl⟩⟩
  · exact h.elim
set_option maxHeartbeats 4000000 in
set_option maxRecDepth 100000 in
theorem b_X9_prove : sm_body lay NX9_prove 5 0 (sm_cl [(30, sp_X2_isStanding), (66, sp_X5_has), (32, sp_X2_reportOf), (86, sp_X7_answerOf), (33, sp_X2_thingOf), (42, sp_X2_finish), (41, sp_X2_setProved)]) sp_X9_prove := by
  intro K J S hW as g hs
  have hn := n_X9_prove
  have hf := fd_all
  have ha := ar_all
  generalize NX9_prove = N at hn hW
  generalize lay = L at hf ha hW
  obtain ⟨hS, hR⟩ := hW
  simp only [sp_X9_prove] at hs
  split at hs
  case h_2 => exact hs.elim
  simp only [e_args, sm_pad, List.length_cons, List.length_nil, Nat.reduceAdd, Nat.reduceSub, List.replicate_succ, List.replicate_zero, List.cons_append, List.nil_append]
  rename_i p c q a
  obtain ⟨rfl, iv, h⟩ := hs
  obtain ⟨zq, zr, zt, zo, zc⟩ := iv_z iv
  have hk : stdC g c → okC g c ∧ 0 ≤ (rA g 27 (tn c)).toInt ∧ (rA g 27 (tn c)).toInt < 60 := fun hst => by
    have hst2 := hst
    unfold stdC at hst2
    have ho : okC g c := hst2.1
    refine ⟨ho, ?_⟩
    unfold okC at ho
    obtain ⟨_, ⟨t, t1, t2⟩, _⟩ := iv.2.2.2.2.2.1 (tn c) (by unfold tn; omega)
    have := zt.2
    rw [t2, nI_t (by omega)]; omega
  clear iv
  apply hR 60
  simp (maxSteps := 10000000) (disch := omega) only [hS, hn, sm_eqs, hf, ha, sm_b0, Int.reduceToNat, ↓reduceIte, Nat.reduceEqDiff, true_and, and_true, List.length_nil, List.length_cons, Nat.reduceAdd, Nat.reduceLeDiff, Nat.zero_le, false_implies, true_implies, not_true_eq_false, not_false_eq_true, implies_true, Nat.reduceSub, Nat.reduceMul, Nat.reduceDiv, reduceCtorEq, tn_clamp, nI_t, tn_nI, nI_add, pk_mul, rS_gS, rS_gA, rS_gL, rA_gS, rA_gA, rA_gL, rL_gS, rL_gA, rL_gL, and_self, and_false, false_and, if_true, if_false, true_or, or_true, or_false, false_or, sm_in, eqI, sI_s, Int32.toInt_zero, Int.natCast_zero, Int.natCast_one, Int.cast_ofNat_Int, Int.reduceEq, Int.reduceLT, Int.reduceLE, Int.reduceNeg, Int.reduceNe, ne_eq, n_up, g_up, e_cat, fr_A, fr_O, fr_P, fr_L, sp_X2_isStanding, sp_X5_has, sp_X2_reportOf, sp_X7_answerOf, sp_X2_thingOf, sp_X2_finish, sp_X2_setProved, zq, zc]
  clear hn hf ha hS hR
  repeat' (first | (with_reducible refine And.intro ?_ ?_) | (with_reducible intro _))
  all_goals (first | with_reducible assumption | omega | (exfalso; omega) | grind)
theorem ok_X9_prove (l : Launch) : sm_spok l lay sm_mt 3 143 sp_X9_prove := Or.inr (Or.inr (Or.inr ⟨by decide, by decide, by
  rw [mt_143]
  exact sm_method (T := TX9_) v_cok v_lok v_ka v_tok_X9 mok_X9_prove rfl (by unfold sm_rk; simp) wf_X9_prove (List.forall_mem_cons.mpr ⟨sm_spok_up (Nat.le_of_ble_eq_true rfl : 1 ≤ 2) (ok_X2_isStanding l), List.forall_mem_cons.mpr ⟨sm_spok_up (Nat.le_of_ble_eq_true rfl : 1 ≤ 2) (ok_X5_has l), List.forall_mem_cons.mpr ⟨sm_spok_up (Nat.le_of_ble_eq_true rfl : 2 ≤ 2) (ok_X2_reportOf l), List.forall_mem_cons.mpr ⟨sm_spok_up (Nat.le_of_ble_eq_true rfl : 2 ≤ 2) (ok_X7_answerOf l), List.forall_mem_cons.mpr ⟨sm_spok_up (Nat.le_of_ble_eq_true rfl : 2 ≤ 2) (ok_X2_thingOf l), List.forall_mem_cons.mpr ⟨sm_spok_up (Nat.le_of_ble_eq_true rfl : 1 ≤ 2) (ok_X2_finish l), List.forall_mem_cons.mpr ⟨sm_spok_up (Nat.le_of_ble_eq_true rfl : 2 ≤ 2) (ok_X2_setProved l), fun _ h => absurd h List.not_mem_nil⟩⟩⟩⟩⟩⟩⟩) b_X9_prove⟩))
def sp_X9_withdraw : sm_SP := fun as g K => match as with
  | [.ref p, .int c] => p = 0 ∧ iv g ∧ (¬ stdC g c → K (some (.int (nI 0))) g) ∧ (stdC g c → K (some (.int (nI 1))) (fin g (tn c) (nI 2)))
  | _ => False
theorem wf_X9_withdraw : sm_wf lay (yX9_withdraw, cX9_withdraw, 2, (some .boolean)) 2 false sp_X9_withdraw := by
  intro as g K h
  simp only [sp_X9_withdraw] at h
  split at h
  · exact ⟨Nat.le_of_ble_eq_true rfl, by simp, rfl, fun _ => by obtain rfl := h.1; exact ⟨0, _, 9, [3, 8, 11, 14, 17, 27, 33, 35, 48, 52, 53, 1], TX9, 12, rfl, rfl, rfl⟩⟩
  · exact h.elim
set_option maxHeartbeats 4000000 in
set_option maxRecDepth 100000 in
theorem b_X9_withdraw : sm_body lay NX9_withdraw 2 1 (sm_cl [(30, sp_X2_isStanding), (42, sp_X2_finish)]) sp_X9_withdraw := by
  intro K J S hW as g hs
  have hn := n_X9_withdraw
  have hf := fd_all
  have ha := ar_all
  generalize NX9_withdraw = N at hn hW
  generalize lay = L at hf ha hW
  obtain ⟨hS, hR⟩ := hW
  simp only [sp_X9_withdraw] at hs
  split at hs
  case h_2 => exact hs.elim
  simp only [e_args, sm_pad, List.length_cons, List.length_nil, Nat.reduceAdd, Nat.reduceSub, List.replicate_succ, List.replicate_zero, List.cons_append, List.nil_append]
  rename_i p c
  obtain ⟨rfl, iv, h1, h2⟩ := hs
  obtain ⟨zq, zr, zt, zo, zc⟩ := iv_z iv
  have hk : stdC g c → okC g c ∧ 0 ≤ (rA g 27 (tn c)).toInt ∧ (rA g 27 (tn c)).toInt < 60 := fun hst => by
    have hst2 := hst
    unfold stdC at hst2
    have ho : okC g c := hst2.1
    refine ⟨ho, ?_⟩
    unfold okC at ho
    obtain ⟨_, ⟨t, t1, t2⟩, _⟩ := iv.2.2.2.2.2.1 (tn c) (by unfold tn; omega)
    have := zt.2
    rw [t2, nI_t (by omega)]; omega
  clear iv
  apply hR 60
  simp (maxSteps := 10000000) (disch := omega) only [hS, hn, sm_eqs, hf, ha, sm_b0, Int.reduceToNat, ↓reduceIte, Nat.reduceEqDiff, true_and, and_true, List.length_nil, List.length_cons, Nat.reduceAdd, Nat.reduceLeDiff, Nat.zero_le, false_implies, true_implies, not_true_eq_false, not_false_eq_true, implies_true, Nat.reduceSub, Nat.reduceMul, Nat.reduceDiv, reduceCtorEq, tn_clamp, nI_t, tn_nI, nI_add, pk_mul, rS_gS, rS_gA, rS_gL, rA_gS, rA_gA, rA_gL, rL_gS, rL_gA, rL_gL, and_self, and_false, false_and, if_true, if_false, true_or, or_true, or_false, false_or, sm_in, eqI, sI_s, Int32.toInt_zero, Int.natCast_zero, Int.natCast_one, Int.cast_ofNat_Int, Int.reduceEq, Int.reduceLT, Int.reduceLE, Int.reduceNeg, Int.reduceNe, ne_eq, n_up, g_up, e_cat, fr_A, fr_O, fr_P, fr_L, sp_X2_isStanding, sp_X2_finish, zc]
  clear hn hf ha hS hR
  grind
theorem ok_X9_withdraw (l : Launch) : sm_spok l lay sm_mt 2 145 sp_X9_withdraw := Or.inr (Or.inr (Or.inr ⟨by decide, by decide, by
  rw [mt_145]
  exact sm_method (T := TX9_) v_cok v_lok v_ka v_tok_X9 mok_X9_withdraw rfl (by unfold sm_rk; simp) wf_X9_withdraw (List.forall_mem_cons.mpr ⟨sm_spok_up (Nat.le_of_ble_eq_true rfl : 1 ≤ 1) (ok_X2_isStanding l), List.forall_mem_cons.mpr ⟨sm_spok_up (Nat.le_of_ble_eq_true rfl : 1 ≤ 1) (ok_X2_finish l), fun _ h => absurd h List.not_mem_nil⟩⟩) b_X9_withdraw⟩))
def sp_X9_shut : sm_SP := fun as g K => match as with
  | [.ref p, .int r] => p = 0 ∧ zR g ∧ zC g ∧ okR g r ∧ (∀ c, c < nC g → sm_in (rA g 27 c) 60) ∧ K none (fins (gA g 14 (upd (rA g 14) (tn r) (nI 0))) (fun c => (rA g 26 c).toInt == r.toInt) (nI 2) (nC g))
  | _ => False
theorem wf_X9_shut : sm_wf lay (yX9_shut, cX9_shut, 2, none) 2 false sp_X9_shut := by
  intro as g K h
  simp only [sp_X9_shut] at h
  split at h
  · exact ⟨Nat.le_of_ble_eq_true rfl, by simp, rfl, fun _ => by obtain rfl := h.1; exact ⟨0, _, 9, [3, 8, 11, 14, 17, 27, 33, 35, 48, 52, 53, 1], TX9, 12, rfl, rfl, rfl⟩⟩
  · exact h.elim
set_option maxHeartbeats 4000000 in
set_option maxRecDepth 100000 in
theorem b_X9_shut : sm_body lay NX9_shut 2 4 (sm_cl [(80, sp_X6_shut), (43, sp_X2_finishAllOf)]) sp_X9_shut := by
  intro K J S hW as g hs
  have hn := n_X9_shut
  have hf := fd_all
  have ha := ar_all
  generalize NX9_shut = N at hn hW
  generalize lay = L at hf ha hW
  obtain ⟨hS, hR⟩ := hW
  simp only [sp_X9_shut] at hs
  split at hs
  case h_2 => exact hs.elim
  simp only [e_args, sm_pad, List.length_cons, List.length_nil, Nat.reduceAdd, Nat.reduceSub, List.replicate_succ, List.replicate_zero, List.cons_append, List.nil_append]
  rename_i p r
  obtain ⟨rfl, zr, zc, hr, ht, hs⟩ := hs
  simp only [sm_in] at ht
  apply hR 60
  simp (maxSteps := 10000000) (disch := omega) only [hS, hn, sm_eqs, hf, ha, sm_b0, Int.reduceToNat, ↓reduceIte, Nat.reduceEqDiff, true_and, and_true, List.length_nil, List.length_cons, Nat.reduceAdd, Nat.reduceLeDiff, Nat.zero_le, false_implies, true_implies, not_true_eq_false, not_false_eq_true, implies_true, Nat.reduceSub, Nat.reduceMul, Nat.reduceDiv, reduceCtorEq, tn_clamp, nI_t, tn_nI, nI_add, pk_mul, rS_gS, rS_gA, rS_gL, rA_gS, rA_gA, rA_gL, rL_gS, rL_gA, rL_gL, and_self, and_false, false_and, if_true, if_false, true_or, or_true, or_false, false_or, sm_in, eqI, sI_s, Int32.toInt_zero, Int.natCast_zero, Int.natCast_one, Int.cast_ofNat_Int, Int.reduceEq, Int.reduceLT, Int.reduceLE, Int.reduceNeg, Int.reduceNe, ne_eq, n_up, g_up, e_cat, fr_A, fr_O, fr_P, fr_L, sp_X6_shut, sp_X2_finishAllOf, zr, zc, hr]
  clear hn hf ha hS hR
  exact ⟨ht, hs⟩
theorem ok_X9_shut (l : Launch) : sm_spok l lay sm_mt 3 147 sp_X9_shut := Or.inr (Or.inr (Or.inr ⟨by decide, by decide, by
  rw [mt_147]
  exact sm_method (T := TX9_) v_cok v_lok v_ka v_tok_X9 mok_X9_shut rfl (by unfold sm_rk; simp) wf_X9_shut (List.forall_mem_cons.mpr ⟨sm_spok_up (Nat.le_of_ble_eq_true rfl : 2 ≤ 2) (ok_X6_shut l), List.forall_mem_cons.mpr ⟨sm_spok_up (Nat.le_of_ble_eq_true rfl : 2 ≤ 2) (ok_X2_finishAllOf l), fun _ h => absurd h List.not_mem_nil⟩⟩) b_X9_shut⟩))
def sp_X9_close : sm_SP := fun as g K => match as with
  | [.ref p, .int r] => p = 0 ∧ iv g ∧ (¬ (okR g r ∧ rA g 14 (tn r) = nI 1) → K (some (.int (nI 0))) g) ∧ (okR g r ∧ rA g 14 (tn r) = nI 1 → K (some (.int (nI 1))) (fins (gA g 14 (upd (rA g 14) (tn r) (nI 0))) (fun c => (rA g 26 c).toInt == r.toInt) (nI 2) (nC g)))
  | _ => False
theorem wf_X9_close : sm_wf lay (yX9_close, cX9_close, 2, (some .boolean)) 2 false sp_X9_close := by
  intro as g K h
  simp only [sp_X9_close] at h
  split at h
  · exact ⟨Nat.le_of_ble_eq_true rfl, by simp, rfl, fun _ => by obtain rfl := h.1; exact ⟨0, _, 9, [3, 8, 11, 14, 17, 27, 33, 35, 48, 52, 53, 1], TX9, 12, rfl, rfl, rfl⟩⟩
  · exact h.elim
set_option maxHeartbeats 4000000 in
set_option maxRecDepth 100000 in
theorem b_X9_close : sm_body lay NX9_close 2 1 (sm_cl [(77, sp_X6_isOpen), (147, sp_X9_shut)]) sp_X9_close := by
  intro K J S hW as g hs
  have hn := n_X9_close
  have hf := fd_all
  have ha := ar_all
  generalize NX9_close = N at hn hW
  generalize lay = L at hf ha hW
  obtain ⟨hS, hR⟩ := hW
  simp only [sp_X9_close] at hs
  split at hs
  case h_2 => exact hs.elim
  simp only [e_args, sm_pad, List.length_cons, List.length_nil, Nat.reduceAdd, Nat.reduceSub, List.replicate_succ, List.replicate_zero, List.cons_append, List.nil_append]
  rename_i p r
  obtain ⟨rfl, iv, h1, h2⟩ := hs
  obtain ⟨zq, zr, zt, zo, zc⟩ := iv_z iv
  have hop := iv.2.1.2.2.2.2.2
  have ho : (rA g 14 (tn r) = nI 1) = ((rA g 14 (tn r)).toInt = 1) := by rw [eqI]; rfl
  rw [ho] at h1 h2
  have hop2 : ∀ i, (rA g 14 i).toInt = 0 ∨ (rA g 14 i).toInt = 1 := fun i => by rcases hop i with e | e <;> rw [e] <;> decide
  have ht : ∀ c, c < nC g → 0 ≤ (rA g 27 c).toInt ∧ (rA g 27 c).toInt < 60 := fun c hc => by
    obtain ⟨_, ⟨t, t1, t2⟩, _⟩ := iv.2.2.2.2.2.1 c hc
    have := zt.2
    rw [t2, nI_t (by omega)]; omega
  clear iv ho hop
  apply hR 60
  simp (maxSteps := 10000000) (disch := omega) only [hS, hn, sm_eqs, hf, ha, sm_b0, Int.reduceToNat, ↓reduceIte, Nat.reduceEqDiff, true_and, and_true, List.length_nil, List.length_cons, Nat.reduceAdd, Nat.reduceLeDiff, Nat.zero_le, false_implies, true_implies, not_true_eq_false, not_false_eq_true, implies_true, Nat.reduceSub, Nat.reduceMul, Nat.reduceDiv, reduceCtorEq, tn_clamp, nI_t, tn_nI, nI_add, pk_mul, rS_gS, rS_gA, rS_gL, rA_gS, rA_gA, rA_gL, rL_gS, rL_gA, rL_gL, and_self, and_false, false_and, if_true, if_false, true_or, or_true, or_false, false_or, sm_in, eqI, sI_s, Int32.toInt_zero, Int.natCast_zero, Int.natCast_one, Int.cast_ofNat_Int, Int.reduceEq, Int.reduceLT, Int.reduceLE, Int.reduceNeg, Int.reduceNe, ne_eq, n_up, g_up, e_cat, fr_A, fr_O, fr_P, fr_L, sp_X6_isOpen, sp_X9_shut, zr, zc]
  clear hn hf ha hS hR
  refine ⟨hop2, ?_⟩
  clear hop2
  grind
theorem ok_X9_close (l : Launch) : sm_spok l lay sm_mt 4 146 sp_X9_close := Or.inr (Or.inr (Or.inr ⟨by decide, by decide, by
  rw [mt_146]
  exact sm_method (T := TX9_) v_cok v_lok v_ka v_tok_X9 mok_X9_close rfl (by unfold sm_rk; simp) wf_X9_close (List.forall_mem_cons.mpr ⟨sm_spok_up (Nat.le_of_ble_eq_true rfl : 2 ≤ 3) (ok_X6_isOpen l), List.forall_mem_cons.mpr ⟨sm_spok_up (Nat.le_of_ble_eq_true rfl : 3 ≤ 3) (ok_X9_shut l), fun _ h => absurd h List.not_mem_nil⟩⟩) b_X9_close⟩))
def sp_X9_into : sm_SP := fun as g K => match as with
  | [.ref p, .int t, .int b] => p = 0 ∧ zT g ∧ (hereC g t ∧ (b.toInt = -1 ∨ (hereC g b ∧ (rA g 16 (tn b)).toInt = 1) ∧ ¬ hld g t 60 b) → K (some (.int (nI 1))) (gA g 19 (upd (rA g 19) (tn t) b))) ∧ (¬ (hereC g t ∧ (b.toInt = -1 ∨ (hereC g b ∧ (rA g 16 (tn b)).toInt = 1) ∧ ¬ hld g t 60 b)) → K (some (.int (nI 0))) g)
  | _ => False
theorem wf_X9_into : sm_wf lay (yX9_into, cX9_into, 3, (some .boolean)) 3 false sp_X9_into := by
  intro as g K h
  simp only [sp_X9_into] at h
  split at h
  · exact ⟨Nat.le_of_ble_eq_true rfl, by simp, rfl, fun _ => by obtain rfl := h.1; exact ⟨0, _, 9, [3, 8, 11, 14, 17, 27, 33, 35, 48, 52, 53, 1], TX9, 12, rfl, rfl, rfl⟩⟩
  · exact h.elim
set_option maxHeartbeats 4000000 in
set_option maxRecDepth 100000 in
theorem b_X9_into : sm_body lay NX9_into 3 1 (sm_cl [(92, sp_X8_isHere), (93, sp_X8_isBagHere), (106, sp_X8_holds), (105, sp_X8_moveTo)]) sp_X9_into := by
  intro K J S hW as g hs
  have hn := n_X9_into
  have hf := fd_all
  have ha := ar_all
  generalize NX9_into = N at hn hW
  generalize lay = L at hf ha hW
  obtain ⟨hS, hR⟩ := hW
  simp only [sp_X9_into] at hs
  split at hs
  case h_2 => exact hs.elim
  simp only [e_args, sm_pad, List.length_cons, List.length_nil, Nat.reduceAdd, Nat.reduceSub, List.replicate_succ, List.replicate_zero, List.cons_append, List.nil_append]
  rename_i p t b
  obtain ⟨rfl, z, h1, h2⟩ := hs
  have fh : hereC g t → okT g t := fun h => h.1
  apply hR 60
  simp (maxSteps := 10000000) (disch := omega) only [hS, hn, sm_eqs, hf, ha, sm_b0, Int.reduceToNat, ↓reduceIte, Nat.reduceEqDiff, true_and, and_true, List.length_nil, List.length_cons, Nat.reduceAdd, Nat.reduceLeDiff, Nat.zero_le, false_implies, true_implies, not_true_eq_false, not_false_eq_true, implies_true, Nat.reduceSub, Nat.reduceMul, Nat.reduceDiv, reduceCtorEq, tn_clamp, nI_t, tn_nI, nI_add, pk_mul, rS_gS, rS_gA, rS_gL, rA_gS, rA_gA, rA_gL, rL_gS, rL_gA, rL_gL, and_self, and_false, false_and, if_true, if_false, true_or, or_true, or_false, false_or, sm_in, eqI, sI_s, Int32.toInt_zero, Int.natCast_zero, Int.natCast_one, Int.cast_ofNat_Int, Int.reduceEq, Int.reduceLT, Int.reduceLE, Int.reduceNeg, Int.reduceNe, ne_eq, n_up, g_up, e_cat, fr_A, fr_O, fr_P, fr_L, sp_X8_isHere, sp_X8_isBagHere, sp_X8_holds, sp_X8_moveTo, z]
  clear hn hf ha hS hR
  grind
theorem ok_X9_into (l : Launch) : sm_spok l lay sm_mt 4 149 sp_X9_into := Or.inr (Or.inr (Or.inr ⟨by decide, by decide, by
  rw [mt_149]
  exact sm_method (T := TX9_) v_cok v_lok v_ka v_tok_X9 mok_X9_into rfl (by unfold sm_rk; simp) wf_X9_into (List.forall_mem_cons.mpr ⟨sm_spok_up (Nat.le_of_ble_eq_true rfl : 1 ≤ 3) (ok_X8_isHere l), List.forall_mem_cons.mpr ⟨sm_spok_up (Nat.le_of_ble_eq_true rfl : 2 ≤ 3) (ok_X8_isBagHere l), List.forall_mem_cons.mpr ⟨sm_spok_up (Nat.le_of_ble_eq_true rfl : 3 ≤ 3) (ok_X8_holds l), List.forall_mem_cons.mpr ⟨sm_spok_up (Nat.le_of_ble_eq_true rfl : 2 ≤ 3) (ok_X8_moveTo l), fun _ h => absurd h List.not_mem_nil⟩⟩⟩⟩) b_X9_into⟩))
def sp_X9_days : sm_SP := fun as g K => match as with
  | [.ref p, .int k, .int n] => p = 0 ∧ ((0 ≤ k.toInt ∧ k.toInt < 6) ∧ 1 ≤ n.toInt ∧ n.toInt ≤ 1000 → K (some (.int (nI 1))) (gA g 50 (upd (rA g 50) (tn k) n))) ∧ (¬ ((0 ≤ k.toInt ∧ k.toInt < 6) ∧ 1 ≤ n.toInt ∧ n.toInt ≤ 1000) → K (some (.int (nI 0))) g)
  | _ => False
theorem wf_X9_days : sm_wf lay (yX9_days, cX9_days, 3, (some .boolean)) 3 false sp_X9_days := by
  intro as g K h
  simp only [sp_X9_days] at h
  split at h
  · exact ⟨Nat.le_of_ble_eq_true rfl, by simp, rfl, fun _ => by obtain rfl := h.1; exact ⟨0, _, 9, [3, 8, 11, 14, 17, 27, 33, 35, 48, 52, 53, 1], TX9, 12, rfl, rfl, rfl⟩⟩
  · exact h.elim
set_option maxHeartbeats 4000000 in
set_option maxRecDepth 100000 in
theorem b_X9_days : sm_body lay NX9_days 3 1 (sm_cl []) sp_X9_days := by
  intro K J S hW as g hs
  have hn := n_X9_days
  have hf := fd_all
  have ha := ar_all
  generalize NX9_days = N at hn hW
  generalize lay = L at hf ha hW
  obtain ⟨hS, hR⟩ := hW
  simp only [sp_X9_days] at hs
  split at hs
  case h_2 => exact hs.elim
  simp only [e_args, sm_pad, List.length_cons, List.length_nil, Nat.reduceAdd, Nat.reduceSub, List.replicate_succ, List.replicate_zero, List.cons_append, List.nil_append]
  rename_i p k n
  obtain ⟨rfl, h1, h2⟩ := hs
  apply hR 60
  simp (maxSteps := 10000000) (disch := omega) only [hS, hn, sm_eqs, hf, ha, sm_b0, Int.reduceToNat, ↓reduceIte, Nat.reduceEqDiff, true_and, and_true, List.length_nil, List.length_cons, Nat.reduceAdd, Nat.reduceLeDiff, Nat.zero_le, false_implies, true_implies, not_true_eq_false, not_false_eq_true, implies_true, Nat.reduceSub, Nat.reduceMul, Nat.reduceDiv, reduceCtorEq, tn_clamp, nI_t, tn_nI, nI_add, pk_mul, rS_gS, rS_gA, rS_gL, rA_gS, rA_gA, rA_gL, rL_gS, rL_gA, rL_gL, and_self, and_false, false_and, if_true, if_false, true_or, or_true, or_false, false_or, sm_in, eqI, sI_s, Int32.toInt_zero, Int.natCast_zero, Int.natCast_one, Int.cast_ofNat_Int, Int.reduceEq, Int.reduceLT, Int.reduceLE, Int.reduceNeg, Int.reduceNe, ne_eq, n_up, g_up, e_cat, fr_A, fr_O, fr_P, fr_L]
  clear hn hf ha hS hR
  grind
theorem ok_X9_days (l : Launch) : sm_spok l lay sm_mt 1 151 sp_X9_days := Or.inr (Or.inr (Or.inr ⟨by decide, by decide, by
  rw [mt_151]
  exact sm_method (T := TX9_) v_cok v_lok v_ka v_tok_X9 mok_X9_days rfl (by unfold sm_rk; simp) wf_X9_days (fun _ h => absurd h List.not_mem_nil) b_X9_days⟩))
def sp_X9_gone : sm_SP := fun as g K => match as with
  | [.ref p, .int k] => p = 0 ∧ zO g ∧ (0 ≤ k.toInt ∧ k.toInt < nO g → K (some (.int (rA g 24 (tn k)))) g) ∧ (¬ (0 ≤ k.toInt ∧ k.toInt < nO g) → K (some (.int (sI 0))) g)
  | _ => False
theorem wf_X9_gone : sm_wf lay (yX9_gone, cX9_gone, 2, (some .int)) 2 false sp_X9_gone := by
  intro as g K h
  simp only [sp_X9_gone] at h
  split at h
  · exact ⟨Nat.le_of_ble_eq_true rfl, by simp, rfl, fun _ => by obtain rfl := h.1; exact ⟨0, _, 9, [3, 8, 11, 14, 17, 27, 33, 35, 48, 52, 53, 1], TX9, 12, rfl, rfl, rfl⟩⟩
  · exact h.elim
set_option maxHeartbeats 4000000 in
set_option maxRecDepth 100000 in
theorem b_X9_gone : sm_body lay NX9_gone 2 0 (sm_cl [(111, sp_X8_goneAt)]) sp_X9_gone := by
  intro K J S hW as g hs
  have hn := n_X9_gone
  have hf := fd_all
  have ha := ar_all
  generalize NX9_gone = N at hn hW
  generalize lay = L at hf ha hW
  obtain ⟨hS, hR⟩ := hW
  simp only [sp_X9_gone] at hs
  split at hs
  case h_2 => exact hs.elim
  simp only [e_args, sm_pad, List.length_cons, List.length_nil, Nat.reduceAdd, Nat.reduceSub, List.replicate_succ, List.replicate_zero, List.cons_append, List.nil_append]
  rename_i p k
  obtain ⟨rfl, z, h1, h2⟩ := hs
  apply hR 60
  simp (maxSteps := 10000000) (disch := omega) only [hS, hn, sm_eqs, hf, ha, sm_b0, Int.reduceToNat, ↓reduceIte, Nat.reduceEqDiff, true_and, and_true, List.length_nil, List.length_cons, Nat.reduceAdd, Nat.reduceLeDiff, Nat.zero_le, false_implies, true_implies, not_true_eq_false, not_false_eq_true, implies_true, Nat.reduceSub, Nat.reduceMul, Nat.reduceDiv, reduceCtorEq, tn_clamp, nI_t, tn_nI, nI_add, pk_mul, rS_gS, rS_gA, rS_gL, rA_gS, rA_gA, rA_gL, rL_gS, rL_gA, rL_gL, and_self, and_false, false_and, if_true, if_false, true_or, or_true, or_false, false_or, sm_in, eqI, sI_s, Int32.toInt_zero, Int.natCast_zero, Int.natCast_one, Int.cast_ofNat_Int, Int.reduceEq, Int.reduceLT, Int.reduceLE, Int.reduceNeg, Int.reduceNe, ne_eq, n_up, g_up, e_cat, fr_A, fr_O, fr_P, fr_L, sp_X8_goneAt, z]
  clear hn hf ha hS hR
  grind
theorem ok_X9_gone (l : Launch) : sm_spok l lay sm_mt 2 158 sp_X9_gone := Or.inr (Or.inr (Or.inr ⟨by decide, by decide, by
  rw [mt_158]
  exact sm_method (T := TX9_) v_cok v_lok v_ka v_tok_X9 mok_X9_gone rfl (by unfold sm_rk; simp) wf_X9_gone (List.forall_mem_cons.mpr ⟨sm_spok_up (Nat.le_of_ble_eq_true rfl : 1 ≤ 1) (ok_X8_goneAt l), fun _ h => absurd h List.not_mem_nil⟩) b_X9_gone⟩))
