/-! Matching one report with one thing. -/
noncomputable def dc (p : Prop) : Bool := @decide p (Classical.propDecidable p)
theorem dc_t {p : Prop} : dc p = true ↔ p := @decide_eq_true_iff p (Classical.propDecidable p)
theorem dc_f {p : Prop} : dc p = false ↔ ¬ p := @decide_eq_false_iff_not p (Classical.propDecidable p)
/-- the first place that a test holds of -/
def ffst (f : Nat → Bool) : Nat → Option Nat
  | 0 => none
  | n + 1 => match ffst f n with
    | some q => some q
    | none => if f n = true then some n else none
theorem ffst_none {f : Nat → Bool} : ∀ {n : Nat}, (∀ u, u < n → f u = false) → ffst f n = none := by
  intro n
  induction n with
  | zero => intro _; rfl
  | succ n ih => intro h; simp only [ffst]; rw [ih (fun u hu => h u (by omega)), h n (by omega)]; rfl
theorem ffst_some {f : Nat → Bool} {q : Nat} (hq : f q = true) (hl : ∀ u, u < q → f u = false) : ∀ {n : Nat}, q < n → ffst f n = some q := by
  intro n
  induction n with
  | zero => intro h; omega
  | succ n ih =>
    intro h
    simp only [ffst]
    by_cases e : q = n
    · subst e; rw [ffst_none hl, hq]; rfl
    · rw [ih (by omega)]
def oI (o : Option Nat) : Int32 := match o with
  | some q => nI q
  | none => sI 0
/-- the answer to q in row x -/
def anC (g : sm_G) (p x q : Nat) : Int32 := if (q : Int) < (rA g (p + 1) x).toInt then rA g (p + 2) (x * 16 + q) else sI 0
theorem aC_nI (g : sm_G) (p : Nat) {x q : Nat} (hx : x < 60) (hq : q < 16) : aC g p (nI x) (nI q) = anC g p x q := by
  unfold aC anC
  simp (disch := omega) only [nI_t, tn_nI]
  by_cases h : (q : Int) < (rA g (p + 1) x).toInt
  · rw [if_pos h, if_pos (by omega)]
  · rw [if_neg h, if_neg (by omega)]
/-- questions hold what they may -/
def wQ (g : sm_G) : Prop := zQ g ∧ ∀ j, j < nQ g → (rA g 2 j).toInt = 0 → (rA g 3 j).toInt ≤ 40
/-- rows are no longer than there are questions -/
def wL (g : sm_G) (p : Nat) : Prop := ∀ x, x < 60 → -1 ≤ (rA g (p + 1) x).toInt ∧ (rA g (p + 1) x).toInt ≤ (nQ g : Int)
def agC (g : sm_G) (q : Nat) (a b : Int32) : Prop := vAns (rA g 2 q) (rA g 3 q) a ∧ vAns (rA g 2 q) (rA g 3 q) b ∧ vAg (rA g 2 q) (rA g 3 q) (bitL (rL g 5 (q * 40 + tn a)) (tn b) = true) a b
def clC (g : sm_G) (r t q : Nat) : Prop := (anC g 6 r q).toInt ≠ -1 ∧ (anC g 9 t q).toInt ≠ -1 ∧ ¬ agC g q (anC g 6 r q) (anC g 9 t q)
noncomputable def fcC (g : sm_G) (r t : Nat) : Option Nat := ffst (fun q => dc (clC g r t q)) (nQ g)
def sp_X4_firstClash : sm_SP := fun as g K => match as with
  | [.ref p, .int r, .int t] => p = 31 ∧ wQ g ∧ wL g 6 ∧ wL g 9 ∧ sm_in r 60 ∧ sm_in t 60 ∧ K (some (.int (oI (fcC g (tn r) (tn t))))) g
  | _ => False
theorem wf_X4_firstClash : sm_wf lay (yX4_firstClash, cX4_firstClash, 7, (some .int)) 3 false sp_X4_firstClash := by
  intro as g K h
  simp only [sp_X4_firstClash] at h
  split at h
  · exact ⟨Nat.le_of_ble_eq_true rfl, by simp, rfl, fun _ => by obtain rfl := h.1; exact ⟨31, _, 4, [3, 8, 11, 17, 34], TX4, 5, rfl, rfl, rfl⟩⟩
  · exact h.elim
set_option maxHeartbeats 4000000 in
set_option maxRecDepth 100000 in
theorem b_X4_firstClash : sm_body lay NX4_firstClash 7 0 (sm_cl [(84, sp_X7_lengthOf), (85, sp_X7_answerOf), (73, sp_X5_agree), (228, sp_min)]) sp_X4_firstClash := by
  intro K J S hW as g hs
  have hn := n_X4_firstClash
  have hf := fd_all
  have ha := ar_all
  generalize NX4_firstClash = N at hn hW
  generalize lay = L at hf ha hW
  obtain ⟨hS, hR⟩ := hW
  simp only [sp_X4_firstClash] at hs
  split at hs
  case h_2 => exact hs.elim
  simp only [e_args, sm_pad, List.length_cons, List.length_nil, Nat.reduceAdd, Nat.reduceSub, List.replicate_succ, List.replicate_zero, List.cons_append, List.nil_append]
  rename_i p r t
  obtain ⟨rfl, w, l6, l9, hr, ht, hs⟩ := hs
  obtain ⟨r, hr2, rfl⟩ := sm_in_nI hr
  obtain ⟨t, ht2, rfl⟩ := sm_in_nI ht
  simp (disch := omega) only [tn_nI] at hs
  have z2 := w.1.2
  have w1 := w.1
  have w2 := w.2
  have l6 := l6 r hr2
  have l9 := l9 t ht2
  simp only [Nat.reduceAdd] at l6 l9
  have loop : ∀ sh : Int32, (sh.toInt ≤ (rA g 7 r).toInt ∧ sh.toInt ≤ (rA g 10 t).toInt ∧ (sh.toInt = (rA g 7 r).toInt ∨ sh.toInt = (rA g 10 t).toInt)) → ∀ m q v5 v6, m = 17 - q → q ≤ 16 → (∀ u, u < q → ¬ clC g r t u) → J 23 [some (.ref 31), some (.int (nI r)), some (.int (nI t)), some (.int sh), some (.int (nI q)), v5, v6] [] g := by
    intro sh hsh m
    induction m with
    | zero => intro q v5 v6 hm hq; omega
    | succ m ih =>
      intro q v5 v6 hm hq hu
      by_cases hqs : (q : Int) < sh.toInt
      · have hqn : q < nQ g := by omega
        have hq16 : q < 16 := by omega
        have e1 : okQ g (nI q) := by unfold okQ; rw [nI_t (by omega)]; omega
        by_cases hc : clC g r t q
        · have hs2 : K (some (.int (nI q))) g := by
            rw [show fcC g r t = some q from ffst_some (dc_t.mpr hc) (fun u hu2 => dc_f.mpr (hu u hu2)) hqn] at hs
            exact hs
          obtain ⟨c1, c2, c3⟩ := hc
          simp only [agC] at c3
          apply hR 60
          simp (maxSteps := 10000000) (disch := omega) only [hS, hn, sm_eqs, hf, ha, sm_b0, Int.reduceToNat, ↓reduceIte, Nat.reduceEqDiff, true_and, and_true, List.length_nil, List.length_cons, Nat.reduceAdd, Nat.reduceLeDiff, Nat.zero_le, false_implies, true_implies, not_true_eq_false, not_false_eq_true, implies_true, Nat.reduceSub, Nat.reduceMul, reduceCtorEq, tn_clamp, nI_t, tn_nI, nI_add, pk_mul, rS_gS, rS_gA, rS_gL, rA_gS, rA_gA, rA_gL, rL_gS, rL_gA, rL_gL, and_self, and_false, false_and, if_true, if_false, true_or, or_true, or_false, false_or, sm_in, eqI, sI_s, Int32.toInt_zero, Int.natCast_zero, Int.natCast_one, Int.cast_ofNat_Int, Int.reduceEq, Int.reduceLT, Int.reduceLE, Int.reduceNeg, Int.reduceNe, ne_eq, n_up, g_up, e_cat, sp_X7_lengthOf, sp_X7_answerOf, sp_X5_agree, sp_min, aC_nI, e1, w1]
          clear hs hu ih l6 l9 hsh
          clear hn hf ha hS hR
          grind
        · have ih := ih (q + 1) (some (.int (anC g 6 r q))) (some (.int (anC g 9 t q))) (by omega) (by omega) (fun u hu2 => by
            by_cases e : u = q
            · rw [e]; exact hc
            · exact hu u (by omega))
          simp only [clC, agC] at hc
          apply hR 60
          simp (maxSteps := 10000000) (disch := omega) only [hS, hn, sm_eqs, hf, ha, sm_b0, Int.reduceToNat, ↓reduceIte, Nat.reduceEqDiff, true_and, and_true, List.length_nil, List.length_cons, Nat.reduceAdd, Nat.reduceLeDiff, Nat.zero_le, false_implies, true_implies, not_true_eq_false, not_false_eq_true, implies_true, Nat.reduceSub, Nat.reduceMul, reduceCtorEq, tn_clamp, nI_t, tn_nI, nI_add, pk_mul, rS_gS, rS_gA, rS_gL, rA_gS, rA_gA, rA_gL, rL_gS, rL_gA, rL_gL, and_self, and_false, false_and, if_true, if_false, true_or, or_true, or_false, false_or, sm_in, eqI, sI_s, Int32.toInt_zero, Int.natCast_zero, Int.natCast_one, Int.cast_ofNat_Int, Int.reduceEq, Int.reduceLT, Int.reduceLE, Int.reduceNeg, Int.reduceNe, ne_eq, n_up, g_up, e_cat, sp_X7_lengthOf, sp_X7_answerOf, sp_X5_agree, sp_min, aC_nI, e1, w1]
          clear hs hu l6 l9 hsh
          clear hn hf ha hS hR
          grind
      · have hs2 : K (some (.int (sI 0))) g := by
          rw [show fcC g r t = none from ffst_none (fun u hu2 => dc_f.mpr (fun hc => by
            by_cases e : u < q
            · exact hu u e hc
            · obtain ⟨c1, c2, c3⟩ := hc
              simp only [anC, Nat.reduceAdd] at c1 c2
              rcases hsh.2.2 with h | h
              · rw [if_neg (by omega)] at c1; exact c1 sI_s.1
              · rw [if_neg (by omega)] at c2; exact c2 sI_s.1))] at hs
          exact hs
        apply hR 60
        simp (maxSteps := 10000000) (disch := omega) only [hS, hn, sm_eqs, hf, ha, sm_b0, Int.reduceToNat, ↓reduceIte, Nat.reduceEqDiff, true_and, and_true, List.length_nil, List.length_cons, Nat.reduceAdd, Nat.reduceLeDiff, Nat.zero_le, false_implies, true_implies, not_true_eq_false, not_false_eq_true, implies_true, Nat.reduceSub, Nat.reduceMul, reduceCtorEq, tn_clamp, nI_t, tn_nI, nI_add, pk_mul, rS_gS, rS_gA, rS_gL, rA_gS, rA_gA, rA_gL, rL_gS, rL_gA, rL_gL, and_self, and_false, false_and, if_true, if_false, true_or, or_true, or_false, false_or, sm_in, eqI, sI_s, Int32.toInt_zero, Int.natCast_zero, Int.natCast_one, Int.cast_ofNat_Int, Int.reduceEq, Int.reduceLT, Int.reduceLE, Int.reduceNeg, Int.reduceNe, ne_eq, n_up, g_up, e_cat, sp_X7_lengthOf, sp_X7_answerOf, sp_X5_agree, sp_min]
        exact ⟨fun h => absurd h hqs, fun _ => hs2⟩
  apply hR 60
  simp (maxSteps := 10000000) (disch := omega) only [hS, hn, sm_eqs, hf, ha, sm_b0, Int.reduceToNat, ↓reduceIte, Nat.reduceEqDiff, true_and, and_true, List.length_nil, List.length_cons, Nat.reduceAdd, Nat.reduceLeDiff, Nat.zero_le, false_implies, true_implies, not_true_eq_false, not_false_eq_true, implies_true, Nat.reduceSub, Nat.reduceMul, reduceCtorEq, tn_clamp, nI_t, tn_nI, nI_add, pk_mul, rS_gS, rS_gA, rS_gL, rA_gS, rA_gA, rA_gL, rL_gS, rL_gA, rL_gL, and_self, and_false, false_and, if_true, if_false, true_or, or_true, or_false, false_or, sm_in, eqI, sI_s, Int32.toInt_zero, Int.natCast_zero, Int.natCast_one, Int.cast_ofNat_Int, Int.reduceEq, Int.reduceLT, Int.reduceLE, Int.reduceNeg, Int.reduceNe, ne_eq, n_up, g_up, e_cat, sp_X7_lengthOf, sp_X7_answerOf, sp_X5_agree, sp_min, sp_min]
  clear hn hf ha hS hR
  refine ⟨fun _ => ⟨fun _ => ⟨fun h => ?_, fun h => ?_⟩, fun h => absurd h (by omega)⟩, fun h => absurd h (by omega)⟩
  · exact loop _ (by omega) 17 0 none none rfl (by omega) (fun u h => by omega)
  · exact loop _ (by omega) 17 0 none none rfl (by omega) (fun u h => by omega)
theorem ok_X4_firstClash (l : Launch) : sm_spok l lay sm_mt 3 56 sp_X4_firstClash := Or.inr (Or.inr (Or.inr ⟨by decide, by decide, by
  rw [mt_56]
  exact sm_method (T := TX4_) v_cok v_lok v_ka v_tok_X4 mok_X4_firstClash rfl (by unfold sm_rk; simp) wf_X4_firstClash (List.forall_mem_cons.mpr ⟨sm_spok_up (Nat.le_of_ble_eq_true rfl : 2 ≤ 2) (ok_X7_lengthOf l), List.forall_mem_cons.mpr ⟨sm_spok_up (Nat.le_of_ble_eq_true rfl : 2 ≤ 2) (ok_X7_answerOf l), List.forall_mem_cons.mpr ⟨sm_spok_up (Nat.le_of_ble_eq_true rfl : 2 ≤ 2) (ok_X5_agree l), List.forall_mem_cons.mpr ⟨Or.inr (Or.inr (Or.inl ⟨rfl, rfl⟩)), fun _ h => absurd h List.not_mem_nil⟩⟩⟩⟩) b_X4_firstClash⟩))
