/-! Sets as bits of a long. -/
theorem bit_and2 {x : Int64} {k : Nat} (hk : k < 64) : ((x >>> ((nI k).toInt64 &&& 63) &&& lN 1) = lN 0) = (bitL x k = false) := bit_and hk
def sp_X9_isIn : sm_SP := fun as g K => match as with
  | [.long s, .int x] => sm_in x 64 ∧ (bitL s (tn x) = true → K (some (.int (nI 1))) g) ∧ (bitL s (tn x) = false → K (some (.int (nI 0))) g)
  | _ => False
theorem wf_X9_isIn : sm_wf lay (yX9_isIn, cX9_isIn, 3, (some .boolean)) 2 true sp_X9_isIn := by
  intro as g K h
  simp only [sp_X9_isIn] at h
  split at h
  · exact ⟨Nat.le_of_ble_eq_true rfl, by simp, rfl, fun h => by cases h⟩
  · exact h.elim
set_option maxHeartbeats 4000000 in
set_option maxRecDepth 100000 in
theorem b_X9_isIn : sm_body lay NX9_isIn 3 1 (sm_cl []) sp_X9_isIn := by
  intro K J S hW as g hs
  have hn := n_X9_isIn
  have hf := fd_all
  have ha := ar_all
  generalize NX9_isIn = N at hn hW
  generalize lay = L at hf ha hW
  obtain ⟨hS, hR⟩ := hW
  simp only [sp_X9_isIn] at hs
  split at hs
  case h_2 => exact hs.elim
  simp only [e_args, sm_pad, List.length_cons, List.length_nil, Nat.reduceAdd, Nat.reduceSub, List.replicate_succ, List.replicate_zero, List.cons_append, List.nil_append]
  rename_i s x
  obtain ⟨hx, h1, h2⟩ := hs
  obtain ⟨x, hx2, rfl⟩ := sm_in_nI hx
  simp (disch := omega) only [tn_nI] at h1 h2
  apply hR 40
  simp (maxSteps := 10000000) (disch := omega) only [hS, hn, sm_eqs, hf, ha, sm_b0, Int.reduceToNat, ↓reduceIte, Nat.reduceEqDiff, true_and, and_true, List.length_nil, List.length_cons, Nat.reduceAdd, Nat.reduceLeDiff, Nat.zero_le, false_implies, true_implies, not_true_eq_false, not_false_eq_true, implies_true, Nat.reduceSub, Nat.reduceMul, Nat.reduceDiv, reduceCtorEq, tn_clamp, nI_t, tn_nI, nI_add, pk_mul, rS_gS, rS_gA, rS_gL, rA_gS, rA_gA, rA_gL, rL_gS, rL_gA, rL_gL, and_self, and_false, false_and, if_true, if_false, true_or, or_true, or_false, false_or, sm_in, eqI, sI_s, Int32.toInt_zero, Int.natCast_zero, Int.natCast_one, Int.cast_ofNat_Int, Int.reduceEq, Int.reduceLT, Int.reduceLE, Int.reduceNeg, Int.reduceNe, ne_eq, n_up, g_up, e_cat, lgc_0, bit_and hx2]
  clear hn hf ha hS hR
  cases h : bitL s x
  · have h2 := h2 h
    grind
  · have h1 := h1 h
    grind
theorem ok_X9_isIn (l : Launch) : sm_spok l lay sm_mt 1 132 sp_X9_isIn := Or.inr (Or.inr (Or.inr ⟨by decide, by decide, by
  rw [mt_132]
  exact sm_method (T := TX9_) v_cok v_lok v_ka v_tok_X9 mok_X9_isIn rfl (by unfold sm_rk; simp) wf_X9_isIn (fun _ h => absurd h List.not_mem_nil) b_X9_isIn⟩))
/-- the set of those below n that a test holds of -/
def sOf (f : Nat → Bool) : Nat → Int64
  | 0 => lN 0
  | n + 1 => if f n = true then sOf f n ||| lN 1 <<< ((nI n).toInt64 &&& 63) else sOf f n
theorem bit_0 (j : Nat) : bitL (lN 0) j = false := by
  show (0#64).getLsbD j = false
  simp
theorem bit_sOf (f : Nat → Bool) (j : Nat) : ∀ n, n ≤ 64 → bitL (sOf f n) j = (decide (j < n) && f j) := by
  intro n
  induction n with
  | zero => intro _; simp [sOf, bit_0]
  | succ n ih =>
    intro hn
    have ih := ih (by omega)
    simp only [sOf]
    by_cases hf : f n = true
    · rw [if_pos hf, bit_or (by omega), ih]
      by_cases e : j = n
      · subst e; simp [hf]
      · have : (j < n + 1) ↔ (j < n) := by omega
        simp [e, this]
    · rw [if_neg hf, ih]
      by_cases e : j = n
      · subst e; simp [hf]
      · have : (j < n + 1) ↔ (j < n) := by omega
        simp [this]
/-- a report fits a thing -/
def fitC (g : sm_G) (r t : Nat) : Prop := ∀ q, q < nQ g → ¬ clC g r t q
theorem oI_lt {n : Nat} {o : Option Nat} (h : ∀ q, o = some q → q < n) (hn : n < 2147483648) : ((oI o).toInt = -1) = (o = none) := by
  cases o with
  | none => exact propext ⟨fun _ => rfl, fun _ => sI_s.1⟩
  | some q =>
    have := h q rfl
    refine propext ⟨fun h => ?_, fun h => by cases h⟩
    rw [show oI (some q) = nI q from rfl, nI_t (by omega)] at h
    omega
theorem ffst_lt {f : Nat → Bool} : ∀ {n q : Nat}, ffst f n = some q → q < n ∧ f q = true := by
  intro n
  induction n with
  | zero => intro q h; cases h
  | succ n ih =>
    intro q h
    simp only [ffst] at h
    split at h
    · rename_i q2 h2; obtain rfl := Option.some.inj h; have := ih h2; exact ⟨by omega, this.2⟩
    · split at h
      · rename_i h3; obtain rfl := Option.some.inj h; exact ⟨by omega, h3⟩
      · cases h
theorem ffst_no {f : Nat → Bool} : ∀ {n : Nat}, ffst f n = none → ∀ u, u < n → f u = false := by
  intro n
  induction n with
  | zero => intro _ u h; omega
  | succ n ih =>
    intro h u hu
    simp only [ffst] at h
    split at h
    · cases h
    · rename_i h2
      split at h
      · cases h
      · rename_i h3
        by_cases e : u = n
        · subst e; simpa using h3
        · exact ih h2 u (by omega)
theorem fcC_fit (g : sm_G) (h : nQ g ≤ 16) (r t : Nat) : ((oI (fcC g r t)).toInt = -1) = fitC g r t := by
  unfold fcC
  rw [oI_lt (n := nQ g) (fun q hq => (ffst_lt hq).1) (by omega)]
  refine propext ⟨fun h1 q hq => dc_f.mp (ffst_no h1 q hq), fun h1 => ffst_none (fun u hu => dc_f.mpr (h1 u hu))⟩
def sp_X4_isFit : sm_SP := fun as g K => match as with
  | [.ref p, .int r, .int t] => p = 31 ∧ wQ g ∧ wL g 6 ∧ wL g 9 ∧ sm_in r 60 ∧ sm_in t 60 ∧ (fitC g (tn r) (tn t) → K (some (.int (nI 1))) g) ∧ (¬ fitC g (tn r) (tn t) → K (some (.int (nI 0))) g)
  | _ => False
theorem wf_X4_isFit : sm_wf lay (yX4_isFit, cX4_isFit, 3, (some .boolean)) 3 false sp_X4_isFit := by
  intro as g K h
  simp only [sp_X4_isFit] at h
  split at h
  · exact ⟨Nat.le_of_ble_eq_true rfl, by simp, rfl, fun _ => by obtain rfl := h.1; exact ⟨31, _, 4, [3, 8, 11, 17, 34], TX4, 5, rfl, rfl, rfl⟩⟩
  · exact h.elim
set_option maxHeartbeats 4000000 in
set_option maxRecDepth 100000 in
theorem b_X4_isFit : sm_body lay NX4_isFit 3 1 (sm_cl [(56, sp_X4_firstClash)]) sp_X4_isFit := by
  intro K J S hW as g hs
  have hn := n_X4_isFit
  have hf := fd_all
  have ha := ar_all
  generalize NX4_isFit = N at hn hW
  generalize lay = L at hf ha hW
  obtain ⟨hS, hR⟩ := hW
  simp only [sp_X4_isFit] at hs
  split at hs
  case h_2 => exact hs.elim
  simp only [e_args, sm_pad, List.length_cons, List.length_nil, Nat.reduceAdd, Nat.reduceSub, List.replicate_succ, List.replicate_zero, List.cons_append, List.nil_append]
  rename_i p r t
  obtain ⟨rfl, w, l6, l9, hr, ht, h1, h2⟩ := hs
  have z2 := w.1.2
  simp only [sm_in] at hr ht
  apply hR 40
  simp (maxSteps := 10000000) (disch := omega) only [hS, hn, sm_eqs, hf, ha, sm_b0, Int.reduceToNat, ↓reduceIte, Nat.reduceEqDiff, true_and, and_true, List.length_nil, List.length_cons, Nat.reduceAdd, Nat.reduceLeDiff, Nat.zero_le, false_implies, true_implies, not_true_eq_false, not_false_eq_true, implies_true, Nat.reduceSub, Nat.reduceMul, Nat.reduceDiv, reduceCtorEq, tn_clamp, nI_t, tn_nI, nI_add, pk_mul, rS_gS, rS_gA, rS_gL, rA_gS, rA_gA, rA_gL, rL_gS, rL_gA, rL_gL, and_self, and_false, false_and, if_true, if_false, true_or, or_true, or_false, false_or, sm_in, eqI, sI_s, Int32.toInt_zero, Int.natCast_zero, Int.natCast_one, Int.cast_ofNat_Int, Int.reduceEq, Int.reduceLT, Int.reduceLE, Int.reduceNeg, Int.reduceNe, ne_eq, n_up, g_up, e_cat, sp_X4_firstClash, w, l6, l9, fcC_fit g z2]
  clear hn hf ha hS hR
  grind
theorem ok_X4_isFit (l : Launch) : sm_spok l lay sm_mt 4 57 sp_X4_isFit := Or.inr (Or.inr (Or.inr ⟨by decide, by decide, by
  rw [mt_57]
  exact sm_method (T := TX4_) v_cok v_lok v_ka v_tok_X4 mok_X4_isFit rfl (by unfold sm_rk; simp) wf_X4_isFit (List.forall_mem_cons.mpr ⟨sm_spok_up (Nat.le_of_ble_eq_true rfl : 3 ≤ 3) (ok_X4_firstClash l), fun _ h => absurd h List.not_mem_nil⟩) b_X4_isFit⟩))
def sp_X4_fitSet : sm_SP := fun as g K => match as with
  | [.ref p, .int r] => p = 31 ∧ wQ g ∧ zT g ∧ wL g 6 ∧ wL g 9 ∧ sm_in r 60 ∧ K (some (.long (sOf (fun t => dc ((rA g 23 t).toInt = -1 ∧ fitC g (tn r) t)) (nT g)))) g
  | _ => False
theorem wf_X4_fitSet : sm_wf lay (yX4_fitSet, cX4_fitSet, 5, (some .long)) 2 false sp_X4_fitSet := by
  intro as g K h
  simp only [sp_X4_fitSet] at h
  split at h
  · exact ⟨Nat.le_of_ble_eq_true rfl, by simp, rfl, fun _ => by obtain rfl := h.1; exact ⟨31, _, 4, [3, 8, 11, 17, 34], TX4, 5, rfl, rfl, rfl⟩⟩
  · exact h.elim
set_option maxHeartbeats 4000000 in
set_option maxRecDepth 100000 in
theorem b_X4_fitSet : sm_body lay NX4_fitSet 5 2 (sm_cl [(90, sp_X8_size), (92, sp_X8_isHere), (56, sp_X4_firstClash)]) sp_X4_fitSet := by
  intro K J S hW as g hs
  have hn := n_X4_fitSet
  have hf := fd_all
  have ha := ar_all
  generalize NX4_fitSet = N at hn hW
  generalize lay = L at hf ha hW
  obtain ⟨hS, hR⟩ := hW
  simp only [sp_X4_fitSet] at hs
  split at hs
  case h_2 => exact hs.elim
  simp only [e_args, sm_pad, List.length_cons, List.length_nil, Nat.reduceAdd, Nat.reduceSub, List.replicate_succ, List.replicate_zero, List.cons_append, List.nil_append]
  rename_i p r
  obtain ⟨rfl, w, z, l6, l9, hr, hs⟩ := hs
  have z2 := w.1.2
  have z3 := z.2
  obtain ⟨r, hr2, rfl⟩ := sm_in_nI hr
  simp (disch := omega) only [tn_nI] at hs
  have loop : ∀ m t, m = nT g - t → t ≤ nT g → J 5 [some (.ref 31), some (.int (nI r)), some (.long (sOf (fun t => dc ((rA g 23 t).toInt = -1 ∧ fitC g r t)) t)), none, some (.int (nI t))] [] g := by
    intro m
    induction m with
    | zero =>
      intro t hm ht
      obtain rfl : t = nT g := by omega
      apply hR 60
      simp (maxSteps := 10000000) (disch := omega) only [hS, hn, sm_eqs, hf, ha, sm_b0, Int.reduceToNat, ↓reduceIte, Nat.reduceEqDiff, true_and, and_true, List.length_nil, List.length_cons, Nat.reduceAdd, Nat.reduceLeDiff, Nat.zero_le, false_implies, true_implies, not_true_eq_false, not_false_eq_true, implies_true, Nat.reduceSub, Nat.reduceMul, Nat.reduceDiv, reduceCtorEq, tn_clamp, nI_t, tn_nI, nI_add, pk_mul, rS_gS, rS_gA, rS_gL, rA_gS, rA_gA, rA_gL, rL_gS, rL_gA, rL_gL, and_self, and_false, false_and, if_true, if_false, true_or, or_true, or_false, false_or, sm_in, eqI, sI_s, Int32.toInt_zero, Int.natCast_zero, Int.natCast_one, Int.cast_ofNat_Int, Int.reduceEq, Int.reduceLT, Int.reduceLE, Int.reduceNeg, Int.reduceNe, ne_eq, n_up, g_up, e_cat, sp_X8_size, sp_X8_isHere, sp_X4_firstClash, z]
      exact ⟨fun h => absurd h (by omega), fun _ => hs⟩
    | succ m ih =>
      intro t hm ht
      have ih := ih (t + 1) (by omega) (by omega)
      have hk : okT g (nI t) := by unfold okT; rw [nI_t (by omega)]; omega
      simp only [sOf] at ih
      have e1 : ((rA g 23 t).toInt = -1 ∧ fitC g r t) → J 5 [some (.ref 31), some (.int (nI r)), some (.long (sOf (fun t => dc ((rA g 23 t).toInt = -1 ∧ fitC g r t)) t ||| lN 1 <<< ((nI t).toInt64 &&& 63))), none, some (.int (nI (t + 1)))] [] g := fun h => by
        rwa [if_pos (dc_t.mpr h)] at ih
      have e0 : ¬ ((rA g 23 t).toInt = -1 ∧ fitC g r t) → J 5 [some (.ref 31), some (.int (nI r)), some (.long (sOf (fun t => dc ((rA g 23 t).toInt = -1 ∧ fitC g r t)) t)), none, some (.int (nI (t + 1)))] [] g := fun h => by
        rwa [if_neg (fun h2 => h (dc_t.mp h2))] at ih
      generalize sOf (fun t => dc ((rA g 23 t).toInt = -1 ∧ fitC g r t)) t = sf at e1 e0 ⊢
      clear ih hs
      apply hR 60
      simp (maxSteps := 10000000) (disch := omega) only [hS, hn, sm_eqs, hf, ha, sm_b0, Int.reduceToNat, ↓reduceIte, Nat.reduceEqDiff, true_and, and_true, List.length_nil, List.length_cons, Nat.reduceAdd, Nat.reduceLeDiff, Nat.zero_le, false_implies, true_implies, not_true_eq_false, not_false_eq_true, implies_true, Nat.reduceSub, Nat.reduceMul, Nat.reduceDiv, reduceCtorEq, tn_clamp, nI_t, tn_nI, nI_add, pk_mul, rS_gS, rS_gA, rS_gL, rA_gS, rA_gA, rA_gL, rL_gS, rL_gA, rL_gL, and_self, and_false, false_and, if_true, if_false, true_or, or_true, or_false, false_or, sm_in, eqI, sI_s, Int32.toInt_zero, Int.natCast_zero, Int.natCast_one, Int.cast_ofNat_Int, Int.reduceEq, Int.reduceLT, Int.reduceLE, Int.reduceNeg, Int.reduceNe, ne_eq, n_up, g_up, e_cat, sp_X8_size, sp_X8_isHere, sp_X4_firstClash, z, w, l6, l9, fcC_fit g z2, hereC, hk]
      clear hn hf ha hS hR
      grind
  apply hR 40
  simp (maxSteps := 10000000) (disch := omega) only [hS, hn, sm_eqs, hf, ha, sm_b0, Int.reduceToNat, ↓reduceIte, Nat.reduceEqDiff, true_and, and_true, List.length_nil, List.length_cons, Nat.reduceAdd, Nat.reduceLeDiff, Nat.zero_le, false_implies, true_implies, not_true_eq_false, not_false_eq_true, implies_true, Nat.reduceSub, Nat.reduceMul, Nat.reduceDiv, reduceCtorEq, tn_clamp, nI_t, tn_nI, nI_add, pk_mul, rS_gS, rS_gA, rS_gL, rA_gS, rA_gA, rA_gL, rL_gS, rL_gA, rL_gL, and_self, and_false, false_and, if_true, if_false, true_or, or_true, or_false, false_or, sm_in, eqI, sI_s, Int32.toInt_zero, Int.natCast_zero, Int.natCast_one, Int.cast_ofNat_Int, Int.reduceEq, Int.reduceLT, Int.reduceLE, Int.reduceNeg, Int.reduceNe, ne_eq, n_up, g_up, e_cat, sp_X8_size, sp_X8_isHere, sp_X4_firstClash]
  exact loop _ 0 rfl (Nat.zero_le _)
theorem ok_X4_fitSet (l : Launch) : sm_spok l lay sm_mt 4 58 sp_X4_fitSet := Or.inr (Or.inr (Or.inr ⟨by decide, by decide, by
  rw [mt_58]
  exact sm_method (T := TX4_) v_cok v_lok v_ka v_tok_X4 mok_X4_fitSet rfl (by unfold sm_rk; simp) wf_X4_fitSet (List.forall_mem_cons.mpr ⟨sm_spok_up (Nat.le_of_ble_eq_true rfl : 1 ≤ 3) (ok_X8_size l), List.forall_mem_cons.mpr ⟨sm_spok_up (Nat.le_of_ble_eq_true rfl : 1 ≤ 3) (ok_X8_isHere l), List.forall_mem_cons.mpr ⟨sm_spok_up (Nat.le_of_ble_eq_true rfl : 3 ≤ 3) (ok_X4_firstClash l), fun _ h => absurd h List.not_mem_nil⟩⟩⟩) b_X4_fitSet⟩))
/-- how many know q with just the answer a, t counted in any case -/
def hoC (g : sm_G) (t q : Nat) (a : Int32) : Nat → Nat
  | 0 => 1
  | n + 1 => hoC g t q a n + (if n ≠ t ∧ (rA g 23 n).toInt = -1 ∧ (anC g 9 n q).toInt = a.toInt then 1 else 0)
theorem hoC_le (g : sm_G) (t q : Nat) (a : Int32) : ∀ n, 1 ≤ hoC g t q a n ∧ hoC g t q a n ≤ n + 1 := by
  intro n
  induction n with
  | zero => exact ⟨Nat.le_refl _, Nat.le_refl _⟩
  | succ n ih => simp only [hoC]; split <;> omega
def sp_X4_countHolders : sm_SP := fun as g K => match as with
  | [.ref p, .int t, .int q, .int a] => p = 31 ∧ zT g ∧ sm_in t 60 ∧ sm_in q 16 ∧ K (some (.int (nI (hoC g (tn t) (tn q) a (nT g))))) g
  | _ => False
theorem wf_X4_countHolders : sm_wf lay (yX4_countHolders, cX4_countHolders, 6, (some .int)) 4 false sp_X4_countHolders := by
  intro as g K h
  simp only [sp_X4_countHolders] at h
  split at h
  · exact ⟨Nat.le_of_ble_eq_true rfl, by simp, rfl, fun _ => by obtain rfl := h.1; exact ⟨31, _, 4, [3, 8, 11, 17, 34], TX4, 5, rfl, rfl, rfl⟩⟩
  · exact h.elim
set_option maxHeartbeats 4000000 in
set_option maxRecDepth 100000 in
theorem b_X4_countHolders : sm_body lay NX4_countHolders 6 0 (sm_cl [(90, sp_X8_size), (92, sp_X8_isHere), (86, sp_X7_answerOf)]) sp_X4_countHolders := by
  intro K J S hW as g hs
  have hn := n_X4_countHolders
  have hf := fd_all
  have ha := ar_all
  generalize NX4_countHolders = N at hn hW
  generalize lay = L at hf ha hW
  obtain ⟨hS, hR⟩ := hW
  simp only [sp_X4_countHolders] at hs
  split at hs
  case h_2 => exact hs.elim
  simp only [e_args, sm_pad, List.length_cons, List.length_nil, Nat.reduceAdd, Nat.reduceSub, List.replicate_succ, List.replicate_zero, List.cons_append, List.nil_append]
  rename_i p t q a
  obtain ⟨rfl, z, ht, hq, hs⟩ := hs
  have z3 := z.2
  obtain ⟨t, ht2, rfl⟩ := sm_in_nI ht
  obtain ⟨q, hq2, rfl⟩ := sm_in_nI hq
  simp (disch := omega) only [tn_nI] at hs
  have loop : ∀ m o, m = nT g - o → o ≤ nT g → ∀ c, c = hoC g t q a o → J 6 [some (.ref 31), some (.int (nI t)), some (.int (nI q)), some (.int a), some (.int (nI c)), some (.int (nI o))] [] g := by
    intro m
    induction m with
    | zero =>
      intro o hm ho c hc
      obtain rfl : o = nT g := by omega
      rw [← hc] at hs
      apply hR 60
      simp (maxSteps := 10000000) (disch := omega) only [hS, hn, sm_eqs, hf, ha, sm_b0, Int.reduceToNat, ↓reduceIte, Nat.reduceEqDiff, true_and, and_true, List.length_nil, List.length_cons, Nat.reduceAdd, Nat.reduceLeDiff, Nat.zero_le, false_implies, true_implies, not_true_eq_false, not_false_eq_true, implies_true, Nat.reduceSub, Nat.reduceMul, Nat.reduceDiv, reduceCtorEq, tn_clamp, nI_t, tn_nI, nI_add, pk_mul, rS_gS, rS_gA, rS_gL, rA_gS, rA_gA, rA_gL, rL_gS, rL_gA, rL_gL, and_self, and_false, false_and, if_true, if_false, true_or, or_true, or_false, false_or, sm_in, eqI, sI_s, Int32.toInt_zero, Int.natCast_zero, Int.natCast_one, Int.cast_ofNat_Int, Int.reduceEq, Int.reduceLT, Int.reduceLE, Int.reduceNeg, Int.reduceNe, ne_eq, n_up, g_up, e_cat, sp_X8_size, sp_X8_isHere, sp_X7_answerOf, z]
      exact ⟨fun h => absurd h (by omega), fun _ => hs⟩
    | succ m ih =>
      intro o hm ho c hc
      have hb := hoC_le g t q a o
      rw [← hc] at hb
      have e1 : (o ≠ t ∧ (rA g 23 o).toInt = -1 ∧ (anC g 9 o q).toInt = a.toInt) → J 6 [some (.ref 31), some (.int (nI t)), some (.int (nI q)), some (.int a), some (.int (nI (c + 1))), some (.int (nI (o + 1)))] [] g := fun h => ih (o + 1) (by omega) (by omega) (c + 1) (by simp only [hoC, ← hc]; rw [if_pos h])
      have e0 : ¬ (o ≠ t ∧ (rA g 23 o).toInt = -1 ∧ (anC g 9 o q).toInt = a.toInt) → J 6 [some (.ref 31), some (.int (nI t)), some (.int (nI q)), some (.int a), some (.int (nI c)), some (.int (nI (o + 1)))] [] g := fun h => ih (o + 1) (by omega) (by omega) c (by simp only [hoC, ← hc]; rw [if_neg h]; rfl)
      clear ih hc hs
      have hk : okT g (nI o) := by unfold okT; rw [nI_t (by omega)]; omega
      apply hR 60
      simp (maxSteps := 10000000) (disch := omega) only [hS, hn, sm_eqs, hf, ha, sm_b0, Int.reduceToNat, ↓reduceIte, Nat.reduceEqDiff, true_and, and_true, List.length_nil, List.length_cons, Nat.reduceAdd, Nat.reduceLeDiff, Nat.zero_le, false_implies, true_implies, not_true_eq_false, not_false_eq_true, implies_true, Nat.reduceSub, Nat.reduceMul, Nat.reduceDiv, reduceCtorEq, tn_clamp, nI_t, tn_nI, nI_add, pk_mul, rS_gS, rS_gA, rS_gL, rA_gS, rA_gA, rA_gL, rL_gS, rL_gA, rL_gL, and_self, and_false, false_and, if_true, if_false, true_or, or_true, or_false, false_or, sm_in, eqI, sI_s, Int32.toInt_zero, Int.natCast_zero, Int.natCast_one, Int.cast_ofNat_Int, Int.reduceEq, Int.reduceLT, Int.reduceLE, Int.reduceNeg, Int.reduceNe, ne_eq, n_up, g_up, e_cat, sp_X8_size, sp_X8_isHere, sp_X7_answerOf, z, hereC, hk, aC_nI]
      clear hn hf ha hS hR
      grind
  apply hR 40
  simp (maxSteps := 10000000) (disch := omega) only [hS, hn, sm_eqs, hf, ha, sm_b0, Int.reduceToNat, ↓reduceIte, Nat.reduceEqDiff, true_and, and_true, List.length_nil, List.length_cons, Nat.reduceAdd, Nat.reduceLeDiff, Nat.zero_le, false_implies, true_implies, not_true_eq_false, not_false_eq_true, implies_true, Nat.reduceSub, Nat.reduceMul, Nat.reduceDiv, reduceCtorEq, tn_clamp, nI_t, tn_nI, nI_add, pk_mul, rS_gS, rS_gA, rS_gL, rA_gS, rA_gA, rA_gL, rL_gS, rL_gA, rL_gL, and_self, and_false, false_and, if_true, if_false, true_or, or_true, or_false, false_or, sm_in, eqI, sI_s, Int32.toInt_zero, Int.natCast_zero, Int.natCast_one, Int.cast_ofNat_Int, Int.reduceEq, Int.reduceLT, Int.reduceLE, Int.reduceNeg, Int.reduceNe, ne_eq, n_up, g_up, e_cat, sp_X8_size, sp_X8_isHere, sp_X7_answerOf]
  exact loop _ 0 rfl (Nat.zero_le _) 1 rfl
theorem ok_X4_countHolders (l : Launch) : sm_spok l lay sm_mt 3 60 sp_X4_countHolders := Or.inr (Or.inr (Or.inr ⟨by decide, by decide, by
  rw [mt_60]
  exact sm_method (T := TX4_) v_cok v_lok v_ka v_tok_X4 mok_X4_countHolders rfl (by unfold sm_rk; simp) wf_X4_countHolders (List.forall_mem_cons.mpr ⟨sm_spok_up (Nat.le_of_ble_eq_true rfl : 1 ≤ 2) (ok_X8_size l), List.forall_mem_cons.mpr ⟨sm_spok_up (Nat.le_of_ble_eq_true rfl : 1 ≤ 2) (ok_X8_isHere l), List.forall_mem_cons.mpr ⟨sm_spok_up (Nat.le_of_ble_eq_true rfl : 2 ≤ 2) (ok_X7_answerOf l), fun _ h => absurd h List.not_mem_nil⟩⟩⟩) b_X4_countHolders⟩))
/-- what t's answer to q is worth to a report that knows q -/
def woC (g : sm_G) (t q : Nat) : Int32 := if (anC g 9 t q).toInt = -1 then nI 0 else (if q < nQ g then rA g 4 q else nI 0) * nI 12 / nI (hoC g t q (anC g 9 t q) (nT g))
def sp_X4_addWorths : sm_SP := fun as g K => match as with
  | [.ref p, .int r] => p = 31 ∧ sm_in r 60 ∧ K (some (.int (isum (fun q => if (anC g 6 (tn r) q).toInt = -1 then nI 0 else rA g 32 q) 16))) g
  | _ => False
theorem wf_X4_addWorths : sm_wf lay (yX4_addWorths, cX4_addWorths, 4, (some .int)) 2 false sp_X4_addWorths := by
  intro as g K h
  simp only [sp_X4_addWorths] at h
  split at h
  · exact ⟨Nat.le_of_ble_eq_true rfl, by simp, rfl, fun _ => by obtain rfl := h.1; exact ⟨31, _, 4, [3, 8, 11, 17, 34], TX4, 5, rfl, rfl, rfl⟩⟩
  · exact h.elim
set_option maxHeartbeats 4000000 in
set_option maxRecDepth 100000 in
theorem b_X4_addWorths : sm_body lay NX4_addWorths 4 0 (sm_cl [(86, sp_X7_answerOf)]) sp_X4_addWorths := by
  intro K J S hW as g hs
  have hn := n_X4_addWorths
  have hf := fd_all
  have ha := ar_all
  generalize NX4_addWorths = N at hn hW
  generalize lay = L at hf ha hW
  obtain ⟨hS, hR⟩ := hW
  simp only [sp_X4_addWorths] at hs
  split at hs
  case h_2 => exact hs.elim
  simp only [e_args, sm_pad, List.length_cons, List.length_nil, Nat.reduceAdd, Nat.reduceSub, List.replicate_succ, List.replicate_zero, List.cons_append, List.nil_append]
  rename_i p r
  obtain ⟨rfl, hr, hs⟩ := hs
  obtain ⟨r, hr2, rfl⟩ := sm_in_nI hr
  simp (disch := omega) only [tn_nI] at hs
  have loop : ∀ m q, m = 16 - q → q ≤ 16 → ∀ s, s = isum (fun q => if (anC g 6 r q).toInt = -1 then nI 0 else rA g 32 q) q → J 4 [some (.ref 31), some (.int (nI r)), some (.int s), some (.int (nI q))] [] g := by
    intro m
    induction m with
    | zero =>
      intro q hm hq s hc
      obtain rfl : q = 16 := by omega
      rw [← hc] at hs
      apply hR 60
      simp (maxSteps := 10000000) (disch := omega) only [hS, hn, sm_eqs, hf, ha, sm_b0, Int.reduceToNat, ↓reduceIte, Nat.reduceEqDiff, true_and, and_true, List.length_nil, List.length_cons, Nat.reduceAdd, Nat.reduceLeDiff, Nat.zero_le, false_implies, true_implies, not_true_eq_false, not_false_eq_true, implies_true, Nat.reduceSub, Nat.reduceMul, Nat.reduceDiv, reduceCtorEq, tn_clamp, nI_t, tn_nI, nI_add, pk_mul, rS_gS, rS_gA, rS_gL, rA_gS, rA_gA, rA_gL, rL_gS, rL_gA, rL_gL, and_self, and_false, false_and, if_true, if_false, true_or, or_true, or_false, false_or, sm_in, eqI, sI_s, Int32.toInt_zero, Int.natCast_zero, Int.natCast_one, Int.cast_ofNat_Int, Int.reduceEq, Int.reduceLT, Int.reduceLE, Int.reduceNeg, Int.reduceNe, ne_eq, n_up, g_up, e_cat, sp_X7_answerOf]
      exact hs
    | succ m ih =>
      intro q hm hq s hc
      have e1 : (anC g 6 r q).toInt = -1 → J 4 [some (.ref 31), some (.int (nI r)), some (.int s), some (.int (nI (q + 1)))] [] g := fun h => ih (q + 1) (by omega) (by omega) s (by simp only [isum, ← hc]; rw [if_pos h]; exact (Int32.add_zero s).symm)
      have e0 : ¬ (anC g 6 r q).toInt = -1 → J 4 [some (.ref 31), some (.int (nI r)), some (.int (s + rA g 32 q)), some (.int (nI (q + 1)))] [] g := fun h => ih (q + 1) (by omega) (by omega) _ (by simp only [isum, ← hc]; rw [if_neg h])
      clear ih hs hc
      apply hR 60
      simp (maxSteps := 10000000) (disch := omega) only [hS, hn, sm_eqs, hf, ha, sm_b0, Int.reduceToNat, ↓reduceIte, Nat.reduceEqDiff, true_and, and_true, List.length_nil, List.length_cons, Nat.reduceAdd, Nat.reduceLeDiff, Nat.zero_le, false_implies, true_implies, not_true_eq_false, not_false_eq_true, implies_true, Nat.reduceSub, Nat.reduceMul, Nat.reduceDiv, reduceCtorEq, tn_clamp, nI_t, tn_nI, nI_add, pk_mul, rS_gS, rS_gA, rS_gL, rA_gS, rA_gA, rA_gL, rL_gS, rL_gA, rL_gL, and_self, and_false, false_and, if_true, if_false, true_or, or_true, or_false, false_or, sm_in, eqI, sI_s, Int32.toInt_zero, Int.natCast_zero, Int.natCast_one, Int.cast_ofNat_Int, Int.reduceEq, Int.reduceLT, Int.reduceLE, Int.reduceNeg, Int.reduceNe, ne_eq, n_up, g_up, e_cat, sp_X7_answerOf, aC_nI]
      clear hn hf ha hS hR
      grind
  apply hR 40
  simp (maxSteps := 10000000) (disch := omega) only [hS, hn, sm_eqs, hf, ha, sm_b0, Int.reduceToNat, ↓reduceIte, Nat.reduceEqDiff, true_and, and_true, List.length_nil, List.length_cons, Nat.reduceAdd, Nat.reduceLeDiff, Nat.zero_le, false_implies, true_implies, not_true_eq_false, not_false_eq_true, implies_true, Nat.reduceSub, Nat.reduceMul, Nat.reduceDiv, reduceCtorEq, tn_clamp, nI_t, tn_nI, nI_add, pk_mul, rS_gS, rS_gA, rS_gL, rA_gS, rA_gA, rA_gL, rL_gS, rL_gA, rL_gL, and_self, and_false, false_and, if_true, if_false, true_or, or_true, or_false, false_or, sm_in, eqI, sI_s, Int32.toInt_zero, Int.natCast_zero, Int.natCast_one, Int.cast_ofNat_Int, Int.reduceEq, Int.reduceLT, Int.reduceLE, Int.reduceNeg, Int.reduceNe, ne_eq, n_up, g_up, e_cat, sp_X7_answerOf]
  exact loop _ 0 rfl (Nat.zero_le _) _ rfl
theorem ok_X4_addWorths (l : Launch) : sm_spok l lay sm_mt 3 61 sp_X4_addWorths := Or.inr (Or.inr (Or.inr ⟨by decide, by decide, by
  rw [mt_61]
  exact sm_method (T := TX4_) v_cok v_lok v_ka v_tok_X4 mok_X4_addWorths rfl (by unfold sm_rk; simp) wf_X4_addWorths (List.forall_mem_cons.mpr ⟨sm_spok_up (Nat.le_of_ble_eq_true rfl : 2 ≤ 2) (ok_X7_answerOf l), fun _ h => absurd h List.not_mem_nil⟩) b_X4_addWorths⟩))
