/-! Questions. -/
/-- an answer, to a question of sort s and number n -/
def vAns (s n a : Int32) : Prop := 0 ≤ a.toInt ∧ (s.toInt = 0 → a.toInt < n.toInt) ∧ (s.toInt = 1 → a.toInt ≤ 30000) ∧ (s.toInt ≠ 0 → s.toInt ≠ 1 → a.toInt < 10000 ∧ (a / nI 100).toInt ≤ (a - a / nI 100 * nI 100).toInt)
/-- what a question may be -/
def vQ (s n w : Int32) : Prop := (s.toInt = 0 ∧ 1 ≤ n.toInt ∧ n.toInt ≤ 40 ∨ s.toInt = 1 ∧ 0 ≤ n.toInt ∧ n.toInt ≤ 10 ∨ s.toInt = 2 ∧ n.toInt = 0) ∧ 1 ≤ w.toInt ∧ w.toInt ≤ 100
def sp_X5_weightOf : sm_SP := fun as g K => match as with
  | [.ref p, .int q] => p = 1 ∧ zQ g ∧ (okQ g q → K (some (.int (rA g 4 (tn q)))) g) ∧ (¬ okQ g q → K (some (.int (nI 0))) g)
  | _ => False
theorem wf_X5_weightOf : sm_wf lay (yX5_weightOf, cX5_weightOf, 2, (some .int)) 2 false sp_X5_weightOf := by
  intro as g K h
  simp only [sp_X5_weightOf] at h
  split at h
  · exact ⟨Nat.le_of_ble_eq_true rfl, by simp, rfl, fun _ => by obtain rfl := h.1; exact ⟨1, _, 5, [4, 5, 6, 7, 1], TX5, 5, rfl, rfl, rfl⟩⟩
  · exact h.elim
set_option maxHeartbeats 4000000 in
set_option maxRecDepth 100000 in
theorem b_X5_weightOf : sm_body lay NX5_weightOf 2 0 (sm_cl [(66, sp_X5_has)]) sp_X5_weightOf := by
  intro K J S hW as g hs
  have hn := n_X5_weightOf
  have hf := fd_all
  have ha := ar_all
  generalize NX5_weightOf = N at hn hW
  generalize lay = L at hf ha hW
  obtain ⟨hS, hR⟩ := hW
  simp only [sp_X5_weightOf] at hs
  split at hs
  case h_2 => exact hs.elim
  simp only [e_args, sm_pad, List.length_cons, List.length_nil, Nat.reduceAdd, Nat.reduceSub, List.replicate_succ, List.replicate_zero, List.cons_append, List.nil_append]
  rename_i p q
  obtain ⟨rfl, z, h1, h2⟩ := hs
  simp only [okQ] at h1 h2
  have z2 := z.2
  apply hR 20
  simp (maxSteps := 10000000) (disch := omega) only [hS, hn, sm_eqs, hf, ha, sm_b0, Int.reduceToNat, ↓reduceIte, Nat.reduceEqDiff, true_and, and_true, List.length_nil, List.length_cons, Nat.reduceAdd, Nat.reduceLeDiff, Nat.zero_le, false_implies, true_implies, not_true_eq_false, not_false_eq_true, implies_true, Nat.reduceSub, Nat.reduceMul, Nat.reduceDiv, reduceCtorEq, tn_clamp, nI_t, tn_nI, nI_add, pk_mul, rS_gS, rS_gA, rS_gL, rA_gS, rA_gA, rA_gL, rL_gS, rL_gA, rL_gL, and_self, and_false, false_and, if_true, if_false, true_or, or_true, or_false, false_or, sm_in, eqI, sI_s, Int32.toInt_zero, Int.natCast_zero, Int.natCast_one, Int.cast_ofNat_Int, Int.reduceEq, Int.reduceLT, Int.reduceLE, Int.reduceNeg, Int.reduceNe, ne_eq, n_up, g_up, e_cat, sp_X5_has, z, okQ]
  clear hn hf ha hS hR
  grind
theorem ok_X5_weightOf (l : Launch) : sm_spok l lay sm_mt 2 67 sp_X5_weightOf := Or.inr (Or.inr (Or.inr ⟨by decide, by decide, by
  rw [mt_67]
  exact sm_method (T := TX5_) v_cok v_lok v_ka v_tok_X5 mok_X5_weightOf rfl (by unfold sm_rk; simp) wf_X5_weightOf (List.forall_mem_cons.mpr ⟨sm_spok_up (Nat.le_of_ble_eq_true rfl : 1 ≤ 1) (ok_X5_has l), fun _ h => absurd h List.not_mem_nil⟩) b_X5_weightOf⟩))
def sp_X5_isNumberOf : sm_SP := fun as g K => match as with
  | [.int s, .int n] => ((s.toInt = 0 ∧ 1 ≤ n.toInt ∧ n.toInt ≤ 40 ∨ s.toInt = 1 ∧ 0 ≤ n.toInt ∧ n.toInt ≤ 10 ∨ s.toInt = 2 ∧ n.toInt = 0) → K (some (.int (nI 1))) g) ∧ (¬ (s.toInt = 0 ∧ 1 ≤ n.toInt ∧ n.toInt ≤ 40 ∨ s.toInt = 1 ∧ 0 ≤ n.toInt ∧ n.toInt ≤ 10 ∨ s.toInt = 2 ∧ n.toInt = 0) → K (some (.int (nI 0))) g)
  | _ => False
theorem wf_X5_isNumberOf : sm_wf lay (yX5_isNumberOf, cX5_isNumberOf, 2, (some .boolean)) 2 true sp_X5_isNumberOf := by
  intro as g K h
  simp only [sp_X5_isNumberOf] at h
  split at h
  · exact ⟨Nat.le_of_ble_eq_true rfl, by simp, rfl, fun h => by cases h⟩
  · exact h.elim
set_option maxHeartbeats 4000000 in
set_option maxRecDepth 100000 in
theorem b_X5_isNumberOf : sm_body lay NX5_isNumberOf 2 1 (sm_cl []) sp_X5_isNumberOf := by
  intro K J S hW as g hs
  have hn := n_X5_isNumberOf
  have hf := fd_all
  have ha := ar_all
  generalize NX5_isNumberOf = N at hn hW
  generalize lay = L at hf ha hW
  obtain ⟨hS, hR⟩ := hW
  simp only [sp_X5_isNumberOf] at hs
  split at hs
  case h_2 => exact hs.elim
  simp only [e_args, sm_pad, List.length_cons, List.length_nil, Nat.reduceAdd, Nat.reduceSub, List.replicate_succ, List.replicate_zero, List.cons_append, List.nil_append]
  rename_i s n
  obtain ⟨h1, h2⟩ := hs
  apply hR 40
  simp (maxSteps := 10000000) (disch := omega) only [hS, hn, sm_eqs, hf, ha, sm_b0, Int.reduceToNat, ↓reduceIte, Nat.reduceEqDiff, true_and, and_true, List.length_nil, List.length_cons, Nat.reduceAdd, Nat.reduceLeDiff, Nat.zero_le, false_implies, true_implies, not_true_eq_false, not_false_eq_true, implies_true, Nat.reduceSub, Nat.reduceMul, Nat.reduceDiv, reduceCtorEq, tn_clamp, nI_t, tn_nI, nI_add, pk_mul, rS_gS, rS_gA, rS_gL, rA_gS, rA_gA, rA_gL, rL_gS, rL_gA, rL_gL, and_self, and_false, false_and, if_true, if_false, true_or, or_true, or_false, false_or, sm_in, eqI, sI_s, Int32.toInt_zero, Int.natCast_zero, Int.natCast_one, Int.cast_ofNat_Int, Int.reduceEq, Int.reduceLT, Int.reduceLE, Int.reduceNeg, Int.reduceNe, ne_eq, n_up, g_up, e_cat]
  clear hn hf ha hS hR
  grind
theorem ok_X5_isNumberOf (l : Launch) : sm_spok l lay sm_mt 1 69 sp_X5_isNumberOf := Or.inr (Or.inr (Or.inr ⟨by decide, by decide, by
  rw [mt_69]
  exact sm_method (T := TX5_) v_cok v_lok v_ka v_tok_X5 mok_X5_isNumberOf rfl (by unfold sm_rk; simp) wf_X5_isNumberOf (fun _ h => absurd h List.not_mem_nil) b_X5_isNumberOf⟩))
def sp_X5_isAnswer : sm_SP := fun as g K => match as with
  | [.ref p, .int q, .int a] => p = 1 ∧ zQ g ∧ (okQ g q ∧ vAns (rA g 2 (tn q)) (rA g 3 (tn q)) a → K (some (.int (nI 1))) g) ∧ (¬ (okQ g q ∧ vAns (rA g 2 (tn q)) (rA g 3 (tn q)) a) → K (some (.int (nI 0))) g)
  | _ => False
theorem wf_X5_isAnswer : sm_wf lay (yX5_isAnswer, cX5_isAnswer, 3, (some .boolean)) 3 false sp_X5_isAnswer := by
  intro as g K h
  simp only [sp_X5_isAnswer] at h
  split at h
  · exact ⟨Nat.le_of_ble_eq_true rfl, by simp, rfl, fun _ => by obtain rfl := h.1; exact ⟨1, _, 5, [4, 5, 6, 7, 1], TX5, 5, rfl, rfl, rfl⟩⟩
  · exact h.elim
set_option maxHeartbeats 4000000 in
set_option maxRecDepth 100000 in
theorem b_X5_isAnswer : sm_body lay NX5_isAnswer 3 1 (sm_cl []) sp_X5_isAnswer := by
  intro K J S hW as g hs
  have hn := n_X5_isAnswer
  have hf := fd_all
  have ha := ar_all
  generalize NX5_isAnswer = N at hn hW
  generalize lay = L at hf ha hW
  obtain ⟨hS, hR⟩ := hW
  simp only [sp_X5_isAnswer] at hs
  split at hs
  case h_2 => exact hs.elim
  simp only [e_args, sm_pad, List.length_cons, List.length_nil, Nat.reduceAdd, Nat.reduceSub, List.replicate_succ, List.replicate_zero, List.cons_append, List.nil_append]
  rename_i p q a
  obtain ⟨rfl, ⟨z1, z2⟩, h1, h2⟩ := hs
  simp only [okQ, vAns] at h1 h2
  apply hR 60
  simp (maxSteps := 10000000) (disch := omega) only [hS, hn, sm_eqs, hf, ha, sm_b0, Int.reduceToNat, ↓reduceIte, Nat.reduceEqDiff, true_and, and_true, List.length_nil, List.length_cons, Nat.reduceAdd, Nat.reduceLeDiff, Nat.zero_le, false_implies, true_implies, not_true_eq_false, not_false_eq_true, implies_true, Nat.reduceSub, Nat.reduceMul, Nat.reduceDiv, reduceCtorEq, tn_clamp, nI_t, tn_nI, nI_add, pk_mul, rS_gS, rS_gA, rS_gL, rA_gS, rA_gA, rA_gL, rL_gS, rL_gA, rL_gL, and_self, and_false, false_and, if_true, if_false, true_or, or_true, or_false, false_or, sm_in, eqI, sI_s, Int32.toInt_zero, Int.natCast_zero, Int.natCast_one, Int.cast_ofNat_Int, Int.reduceEq, Int.reduceLT, Int.reduceLE, Int.reduceNeg, Int.reduceNe, ne_eq, n_up, g_up, e_cat, z1]
  clear hn hf ha hS hR
  grind
theorem ok_X5_isAnswer (l : Launch) : sm_spok l lay sm_mt 1 70 sp_X5_isAnswer := Or.inr (Or.inr (Or.inr ⟨by decide, by decide, by
  rw [mt_70]
  exact sm_method (T := TX5_) v_cok v_lok v_ka v_tok_X5 mok_X5_isAnswer rfl (by unfold sm_rk; simp) wf_X5_isAnswer (fun _ h => absurd h List.not_mem_nil) b_X5_isAnswer⟩))
def sp_X5_add : sm_SP := fun as g K => match as with
  | [.ref p, .int s, .int n, .int w] => p = 1 ∧ zQ g ∧ (nQ g < 16 ∧ vQ s n w → K (some (.int (nI (nQ g)))) (gS (gA (gA (gA g 2 (upd (rA g 2) (nQ g) s)) 3 (upd (rA g 3) (nQ g) n)) 4 (upd (rA g 4) (nQ g) w)) 1 504 (nI (nQ g + 1)))) ∧ (¬ (nQ g < 16 ∧ vQ s n w) → K (some (.int (sI 0))) g)
  | _ => False
theorem wf_X5_add : sm_wf lay (yX5_add, cX5_add, 5, (some .int)) 4 false sp_X5_add := by
  intro as g K h
  simp only [sp_X5_add] at h
  split at h
  · exact ⟨Nat.le_of_ble_eq_true rfl, by simp, rfl, fun _ => by obtain rfl := h.1; exact ⟨1, _, 5, [4, 5, 6, 7, 1], TX5, 5, rfl, rfl, rfl⟩⟩
  · exact h.elim
set_option maxHeartbeats 4000000 in
set_option maxRecDepth 100000 in
theorem b_X5_add : sm_body lay NX5_add 5 0 (sm_cl [(69, sp_X5_isNumberOf)]) sp_X5_add := by
  intro K J S hW as g hs
  have hn := n_X5_add
  have hf := fd_all
  have ha := ar_all
  generalize NX5_add = N at hn hW
  generalize lay = L at hf ha hW
  obtain ⟨hS, hR⟩ := hW
  simp only [sp_X5_add] at hs
  split at hs
  case h_2 => exact hs.elim
  simp only [e_args, sm_pad, List.length_cons, List.length_nil, Nat.reduceAdd, Nat.reduceSub, List.replicate_succ, List.replicate_zero, List.cons_append, List.nil_append]
  rename_i p s n w
  obtain ⟨rfl, ⟨z1, z2⟩, h1, h2⟩ := hs
  simp only [vQ] at h1 h2
  apply hR 60
  simp (maxSteps := 10000000) (disch := omega) only [hS, hn, sm_eqs, hf, ha, sm_b0, Int.reduceToNat, ↓reduceIte, Nat.reduceEqDiff, true_and, and_true, List.length_nil, List.length_cons, Nat.reduceAdd, Nat.reduceLeDiff, Nat.zero_le, false_implies, true_implies, not_true_eq_false, not_false_eq_true, implies_true, Nat.reduceSub, Nat.reduceMul, Nat.reduceDiv, reduceCtorEq, tn_clamp, nI_t, tn_nI, nI_add, pk_mul, rS_gS, rS_gA, rS_gL, rA_gS, rA_gA, rA_gL, rL_gS, rL_gA, rL_gL, and_self, and_false, false_and, if_true, if_false, true_or, or_true, or_false, false_or, sm_in, eqI, sI_s, Int32.toInt_zero, Int.natCast_zero, Int.natCast_one, Int.cast_ofNat_Int, Int.reduceEq, Int.reduceLT, Int.reduceLE, Int.reduceNeg, Int.reduceNe, ne_eq, n_up, g_up, e_cat, sp_X5_isNumberOf, z1]
  clear hn hf ha hS hR
  grind
theorem ok_X5_add (l : Launch) : sm_spok l lay sm_mt 2 68 sp_X5_add := Or.inr (Or.inr (Or.inr ⟨by decide, by decide, by
  rw [mt_68]
  exact sm_method (T := TX5_) v_cok v_lok v_ka v_tok_X5 mok_X5_add rfl (by unfold sm_rk; simp) wf_X5_add (List.forall_mem_cons.mpr ⟨sm_spok_up (Nat.le_of_ble_eq_true rfl : 1 ≤ 1) (ok_X5_isNumberOf l), fun _ h => absurd h List.not_mem_nil⟩) b_X5_add⟩))
/-- two answers may be of one thing, by a question's sort, its number and what was told -/
def vAg (s n : Int32) (told : Prop) (a b : Int32) : Prop :=
  (s.toInt = 0 → a.toInt = b.toInt ∨ told) ∧
  (s.toInt = 1 → (nI 10 * ((if a.toInt < b.toInt then b else a) - (if a.toInt < b.toInt then a else b))).toInt ≤ (n * (if a.toInt < b.toInt then b else a)).toInt) ∧
  (s.toInt ≠ 0 → s.toInt ≠ 1 → (a / nI 100).toInt ≤ (b - b / nI 100 * nI 100).toInt ∧ (b / nI 100).toInt ≤ (a - a / nI 100 * nI 100).toInt)
/-- a bit of a long -/
def bitL (x : Int64) (i : Nat) : Bool := x.toBitVec.getLsbD i
theorem lgc_0 (x y : Int64) : ((lg_cmp x y).toInt = 0) = (x = y) := by
  unfold lg_cmp
  split
  · rename_i h
    have : ¬ x = y := fun e => by rw [e] at h; exact absurd h (Int64.lt_irrefl)
    rw [eq_false this]; exact eq_false (by decide)
  · split
    · rename_i h; rw [eq_true h]; exact eq_true rfl
    · rename_i h; rw [eq_false h]; exact eq_false (by decide)
theorem bit_am : ∀ k, k < 64 → ((nI k).toInt64 &&& 63).toBitVec.smod 64 = BitVec.ofNat 64 k := by decide +kernel
theorem bv_and1 (y : BitVec 64) : (y &&& 1#64 = 0#64) ↔ y.getLsbD 0 = false := by
  constructor
  · intro h
    have h2 := congrArg (fun z : BitVec 64 => z.getLsbD 0) h
    simpa using h2
  · intro h
    apply BitVec.eq_of_getLsbD_eq
    intro i hi
    cases i with
    | zero => rw [BitVec.getLsbD_and, h]; simp
    | succ i => simp [BitVec.getLsbD_one]
theorem bit_and {x : Int64} {k : Nat} (hk : k < 64) : ((x >>> ((nI k).toInt64 &&& 63) &&& lN 1) = lN 0) = (bitL x k = false) := by
  apply propext
  rw [← Int64.toBitVec_inj, Int64.toBitVec_and, Int64.toBitVec_shiftRight, bit_am k hk]
  rw [show (lN 1).toBitVec = 1#64 from rfl, show (lN 0).toBitVec = 0#64 from rfl, bv_and1]
  have : (BitVec.ofNat 64 k).toNat = k := by simp; omega
  show (x.toBitVec.sshiftRight (BitVec.ofNat 64 k).toNat).getLsbD 0 = false ↔ bitL x k = false
  rw [this, BitVec.getLsbD_sshiftRight, if_pos (by omega)]
  simp only [bitL, Nat.add_zero, Nat.not_le, decide_false, Bool.not_false, Bool.true_and, Nat.reduceLeDiff, decide_eq_true_eq]
def sp_X5_agree : sm_SP := fun as g K => match as with
  | [.ref p, .int q, .int a, .int b] => p = 1 ∧ zQ g ∧ (∀ j, j < nQ g → (rA g 2 j).toInt = 0 → (rA g 3 j).toInt ≤ 40) ∧
      (okQ g q ∧ vAns (rA g 2 (tn q)) (rA g 3 (tn q)) a ∧ vAns (rA g 2 (tn q)) (rA g 3 (tn q)) b ∧ vAg (rA g 2 (tn q)) (rA g 3 (tn q)) (bitL (rL g 5 (tn q * 40 + tn a)) (tn b) = true) a b → K (some (.int (nI 1))) g) ∧
      (¬ (okQ g q ∧ vAns (rA g 2 (tn q)) (rA g 3 (tn q)) a ∧ vAns (rA g 2 (tn q)) (rA g 3 (tn q)) b ∧ vAg (rA g 2 (tn q)) (rA g 3 (tn q)) (bitL (rL g 5 (tn q * 40 + tn a)) (tn b) = true) a b) → K (some (.int (nI 0))) g)
  | _ => False
theorem wf_X5_agree : sm_wf lay (yX5_agree, cX5_agree, 5, (some .boolean)) 4 false sp_X5_agree := by
  intro as g K h
  simp only [sp_X5_agree] at h
  split at h
  · exact ⟨Nat.le_of_ble_eq_true rfl, by simp, rfl, fun _ => by obtain rfl := h.1; exact ⟨1, _, 5, [4, 5, 6, 7, 1], TX5, 5, rfl, rfl, rfl⟩⟩
  · exact h.elim
set_option maxHeartbeats 4000000 in
set_option maxRecDepth 100000 in
theorem b_X5_agree : sm_body lay NX5_agree 5 1 (sm_cl [(70, sp_X5_isAnswer), (228, sp_max), (229, sp_min)]) sp_X5_agree := by
  intro K J S hW as g hs
  have hn := n_X5_agree
  have hf := fd_all
  have ha := ar_all
  generalize NX5_agree = N at hn hW
  generalize lay = L at hf ha hW
  obtain ⟨hS, hR⟩ := hW
  simp only [sp_X5_agree] at hs
  split at hs
  case h_2 => exact hs.elim
  simp only [e_args, sm_pad, List.length_cons, List.length_nil, Nat.reduceAdd, Nat.reduceSub, List.replicate_succ, List.replicate_zero, List.cons_append, List.nil_append]
  rename_i p q a b
  obtain ⟨rfl, z, h0, h1, h2⟩ := hs
  have z2 := z.2
  by_cases hc : okQ g q ∧ vAns (rA g 2 (tn q)) (rA g 3 (tn q)) a ∧ vAns (rA g 2 (tn q)) (rA g 3 (tn q)) b
  · obtain ⟨c1, c2, c3⟩ := hc
    simp only [c1, c2, c3, true_and] at h1 h2
    obtain ⟨j, hj, rfl⟩ := ok_nI c1
    obtain ⟨i, hi, rfl⟩ : ∃ i, i < 2147483648 ∧ a = nI i := ⟨tn a, by have := c2.1; have := Int32.toInt_lt a; unfold tn; omega, nI_tn c2.1⟩
    obtain ⟨k, hk, rfl⟩ : ∃ k, k < 2147483648 ∧ b = nI k := ⟨tn b, by have := c3.1; have := Int32.toInt_lt b; unfold tn; omega, nI_tn c3.1⟩
    simp (disch := omega) only [tn_nI] at c2 c3 h1 h2
    have h0' := h0 j hj
    apply hR 100
    simp (maxSteps := 10000000) (disch := omega) only [hS, hn, sm_eqs, hf, ha, sm_b0, Int.reduceToNat, ↓reduceIte, Nat.reduceEqDiff, true_and, and_true, List.length_nil, List.length_cons, Nat.reduceAdd, Nat.reduceLeDiff, Nat.zero_le, false_implies, true_implies, not_true_eq_false, not_false_eq_true, implies_true, Nat.reduceSub, Nat.reduceMul, Nat.reduceDiv, reduceCtorEq, tn_clamp, nI_t, tn_nI, nI_add, pk_mul, rS_gS, rS_gA, rS_gL, rA_gS, rA_gA, rA_gL, rL_gS, rL_gA, rL_gL, and_self, and_false, false_and, if_true, if_false, true_or, or_true, or_false, false_or, sm_in, eqI, sI_s, Int32.toInt_zero, Int.natCast_zero, Int.natCast_one, Int.cast_ofNat_Int, Int.reduceEq, Int.reduceLT, Int.reduceLE, Int.reduceNeg, Int.reduceNe, ne_eq, n_up, g_up, e_cat, sp_X5_isAnswer, sp_max, sp_min, z.1, z.2, z, c1, c2, c3, sp_max, sp_min]
    clear hn hf ha hS hR
    by_cases s0 : (rA g 2 j).toInt = 0
    · have hi40 : i < 40 := by
        have := c2.2.1 s0
        rw [nI_t hi] at this
        have := h0' s0
        omega
      have hk40 : k < 40 := by
        have := c3.2.1 s0
        rw [nI_t hk] at this
        have := h0' s0
        omega
      simp (disch := omega) only [s0, nI_t, tn_nI, lgc_0, bit_and, vAg] at h1 h2 ⊢
      grind
    · by_cases s1 : (rA g 2 j).toInt = 1
      · simp (disch := omega) only [s0, s1, nI_t, tn_nI, vAg] at h1 h2 ⊢
        grind
      · simp (disch := omega) only [s0, s1, nI_t, tn_nI, vAg] at h1 h2 ⊢
        grind
  · apply hR 100
    simp (maxSteps := 10000000) (disch := omega) only [hS, hn, sm_eqs, hf, ha, sm_b0, Int.reduceToNat, ↓reduceIte, Nat.reduceEqDiff, true_and, and_true, List.length_nil, List.length_cons, Nat.reduceAdd, Nat.reduceLeDiff, Nat.zero_le, false_implies, true_implies, not_true_eq_false, not_false_eq_true, implies_true, Nat.reduceSub, Nat.reduceMul, Nat.reduceDiv, reduceCtorEq, tn_clamp, nI_t, tn_nI, nI_add, pk_mul, rS_gS, rS_gA, rS_gL, rA_gS, rA_gA, rA_gL, rL_gS, rL_gA, rL_gL, and_self, and_false, false_and, if_true, if_false, true_or, or_true, or_false, false_or, sm_in, eqI, sI_s, Int32.toInt_zero, Int.natCast_zero, Int.natCast_one, Int.cast_ofNat_Int, Int.reduceEq, Int.reduceLT, Int.reduceLE, Int.reduceNeg, Int.reduceNe, ne_eq, n_up, g_up, e_cat, sp_X5_isAnswer, sp_max, sp_min, z.1, z.2, z, sp_max, sp_min]
    exact ⟨fun h1' => ⟨fun h2' => absurd ⟨h1'.1, h1'.2, h2'.2⟩ hc, fun _ => h2 (fun h => hc ⟨h.1, h.2.1, h.2.2.1⟩)⟩, fun _ => h2 (fun h => hc ⟨h.1, h.2.1, h.2.2.1⟩)⟩
theorem ok_X5_agree (l : Launch) : sm_spok l lay sm_mt 2 73 sp_X5_agree := Or.inr (Or.inr (Or.inr ⟨by decide, by decide, by
  rw [mt_73]
  exact sm_method (T := TX5_) v_cok v_lok v_ka v_tok_X5 mok_X5_agree rfl (by unfold sm_rk; simp) wf_X5_agree (List.forall_mem_cons.mpr ⟨sm_spok_up (Nat.le_of_ble_eq_true rfl : 1 ≤ 1) (ok_X5_isAnswer l), List.forall_mem_cons.mpr ⟨Or.inr (Or.inl ⟨rfl, rfl⟩), List.forall_mem_cons.mpr ⟨Or.inr (Or.inr (Or.inl ⟨rfl, rfl⟩)), fun _ h => absurd h List.not_mem_nil⟩⟩⟩) b_X5_agree⟩))
/-- a bit is set, or taken away -/
theorem bv_one_shl (k j : Nat) (hk : k < 64) : (1#64 <<< k).getLsbD j = decide (j = k) := by
  rw [BitVec.getLsbD_shiftLeft, BitVec.getLsbD_one]
  by_cases h : j = k
  · subst h; simp [hk]
  · by_cases h2 : j < k
    · simp [h2, h]
    · simp [h2, h]; omega
theorem bit_or {x : Int64} {k j : Nat} (hk : k < 64) : bitL (x ||| lN 1 <<< ((nI k).toInt64 &&& 63)) j = (bitL x j || decide (j = k)) := by
  unfold bitL
  rw [Int64.toBitVec_or, Int64.toBitVec_shiftLeft, bit_am k hk, BitVec.getLsbD_or]
  have : (BitVec.ofNat 64 k).toNat = k := by simp; omega
  show (_ || (1#64 <<< (BitVec.ofNat 64 k).toNat).getLsbD j) = _
  rw [this, bv_one_shl k j hk]
theorem bit_off {x : Int64} {k j : Nat} (hk : k < 64) (hj : j < 64) : bitL (x &&& (lN 1 <<< ((nI k).toInt64 &&& 63) ^^^ Int64.ofInt (-1))) j = (bitL x j && decide (j ≠ k)) := by
  unfold bitL
  rw [Int64.toBitVec_and, Int64.toBitVec_xor, Int64.toBitVec_shiftLeft, bit_am k hk, BitVec.getLsbD_and, BitVec.getLsbD_xor]
  have : (BitVec.ofNat 64 k).toNat = k := by simp; omega
  rw [show (Int64.ofInt (-1)).toBitVec = BitVec.allOnes 64 from rfl, BitVec.getLsbD_allOnes]
  show (_ && ((1#64 <<< (BitVec.ofNat 64 k).toNat).getLsbD j ^^ _)) = _
  rw [this, bv_one_shl k j hk]
  by_cases h : j = k <;> simp [h, hj, hk]
/-- what was told of a table, one way -/
def tld (f : Nat → Int64) (at0 b : Nat) (is : Int32) : Nat → Int64 := vp_updL f at0 (if is.toInt = 0 then f at0 &&& (lN 1 <<< ((nI b).toInt64 &&& 63) ^^^ Int64.ofInt (-1)) else f at0 ||| lN 1 <<< ((nI b).toInt64 &&& 63))
def sp_X5_tellOneWay : sm_SP := fun as g K => match as with
  | [.ref p, .int i, .int b, .int is] => p = 1 ∧ sm_in i 640 ∧ sm_in b 64 ∧ K none (gL g 5 (tld (rL g 5) (tn i) (tn b) is))
  | _ => False
theorem wf_X5_tellOneWay : sm_wf lay (yX5_tellOneWay, cX5_tellOneWay, 6, none) 4 false sp_X5_tellOneWay := by
  intro as g K h
  simp only [sp_X5_tellOneWay] at h
  split at h
  · exact ⟨Nat.le_of_ble_eq_true rfl, by simp, rfl, fun _ => by obtain rfl := h.1; exact ⟨1, _, 5, [4, 5, 6, 7, 1], TX5, 5, rfl, rfl, rfl⟩⟩
  · exact h.elim
set_option maxHeartbeats 4000000 in
set_option maxRecDepth 100000 in
theorem b_X5_tellOneWay : sm_body lay NX5_tellOneWay 6 4 (sm_cl []) sp_X5_tellOneWay := by
  intro K J S hW as g hs
  have hn := n_X5_tellOneWay
  have hf := fd_all
  have ha := ar_all
  generalize NX5_tellOneWay = N at hn hW
  generalize lay = L at hf ha hW
  obtain ⟨hS, hR⟩ := hW
  simp only [sp_X5_tellOneWay] at hs
  split at hs
  case h_2 => exact hs.elim
  simp only [e_args, sm_pad, List.length_cons, List.length_nil, Nat.reduceAdd, Nat.reduceSub, List.replicate_succ, List.replicate_zero, List.cons_append, List.nil_append]
  rename_i p i b is
  obtain ⟨rfl, hi, hb, hs⟩ := hs
  obtain ⟨i, hi, rfl⟩ := sm_in_nI hi
  obtain ⟨b, hb, rfl⟩ := sm_in_nI hb
  simp (disch := omega) only [tld, tn_nI] at hs
  apply hR 60
  simp (maxSteps := 10000000) (disch := omega) only [hS, hn, sm_eqs, hf, ha, sm_b0, Int.reduceToNat, ↓reduceIte, Nat.reduceEqDiff, true_and, and_true, List.length_nil, List.length_cons, Nat.reduceAdd, Nat.reduceLeDiff, Nat.zero_le, false_implies, true_implies, not_true_eq_false, not_false_eq_true, implies_true, Nat.reduceSub, Nat.reduceMul, Nat.reduceDiv, reduceCtorEq, tn_clamp, nI_t, tn_nI, nI_add, pk_mul, rS_gS, rS_gA, rS_gL, rA_gS, rA_gA, rA_gL, rL_gS, rL_gA, rL_gL, and_self, and_false, false_and, if_true, if_false, true_or, or_true, or_false, false_or, sm_in, eqI, sI_s, Int32.toInt_zero, Int.natCast_zero, Int.natCast_one, Int.cast_ofNat_Int, Int.reduceEq, Int.reduceLT, Int.reduceLE, Int.reduceNeg, Int.reduceNe, ne_eq, n_up, g_up, e_cat]
  clear hn hf ha hS hR
  grind
theorem ok_X5_tellOneWay (l : Launch) : sm_spok l lay sm_mt 1 72 sp_X5_tellOneWay := Or.inr (Or.inr (Or.inr ⟨by decide, by decide, by
  rw [mt_72]
  exact sm_method (T := TX5_) v_cok v_lok v_ka v_tok_X5 mok_X5_tellOneWay rfl (by unfold sm_rk; simp) wf_X5_tellOneWay (fun _ h => absurd h List.not_mem_nil) b_X5_tellOneWay⟩))
def sp_X5_tellOfTable : sm_SP := fun as g K => match as with
  | [.ref p, .int q, .int a, .int b, .int is] => p = 1 ∧ zQ g ∧ (∀ j, j < nQ g → (rA g 2 j).toInt = 0 → (rA g 3 j).toInt ≤ 40) ∧ sm_zr 1 is ∧
      (okQ g q ∧ vAns (rA g 2 (tn q)) (rA g 3 (tn q)) a ∧ vAns (rA g 2 (tn q)) (rA g 3 (tn q)) b ∧ (rA g 2 (tn q)).toInt = 0 →
        (a.toInt = b.toInt → K (some (.int is)) g) ∧ (a.toInt ≠ b.toInt → K (some (.int (nI 1))) (gL g 5 (tld (tld (rL g 5) (tn q * 40 + tn a) (tn b) is) (tn q * 40 + tn b) (tn a) is)))) ∧
      (¬ (okQ g q ∧ vAns (rA g 2 (tn q)) (rA g 3 (tn q)) a ∧ vAns (rA g 2 (tn q)) (rA g 3 (tn q)) b ∧ (rA g 2 (tn q)).toInt = 0) → K (some (.int (nI 0))) g)
  | _ => False
theorem wf_X5_tellOfTable : sm_wf lay (yX5_tellOfTable, cX5_tellOfTable, 5, (some .boolean)) 5 false sp_X5_tellOfTable := by
  intro as g K h
  simp only [sp_X5_tellOfTable] at h
  split at h
  · exact ⟨Nat.le_of_ble_eq_true rfl, by simp, rfl, fun _ => by obtain rfl := h.1; exact ⟨1, _, 5, [4, 5, 6, 7, 1], TX5, 5, rfl, rfl, rfl⟩⟩
  · exact h.elim
set_option maxHeartbeats 4000000 in
set_option maxRecDepth 100000 in
theorem b_X5_tellOfTable : sm_body lay NX5_tellOfTable 5 1 (sm_cl [(70, sp_X5_isAnswer), (72, sp_X5_tellOneWay)]) sp_X5_tellOfTable := by
  intro K J S hW as g hs
  have hn := n_X5_tellOfTable
  have hf := fd_all
  have ha := ar_all
  generalize NX5_tellOfTable = N at hn hW
  generalize lay = L at hf ha hW
  obtain ⟨hS, hR⟩ := hW
  simp only [sp_X5_tellOfTable] at hs
  split at hs
  case h_2 => exact hs.elim
  simp only [e_args, sm_pad, List.length_cons, List.length_nil, Nat.reduceAdd, Nat.reduceSub, List.replicate_succ, List.replicate_zero, List.cons_append, List.nil_append]
  rename_i p q a b is
  obtain ⟨rfl, z, h0, hz, h1, h2⟩ := hs
  have z2 := z.2
  by_cases hc : okQ g q ∧ vAns (rA g 2 (tn q)) (rA g 3 (tn q)) a ∧ vAns (rA g 2 (tn q)) (rA g 3 (tn q)) b ∧ (rA g 2 (tn q)).toInt = 0
  · have h1 := h1 hc
    obtain ⟨c1, c2, c3, c4⟩ := hc
    obtain ⟨j, hj, rfl⟩ := ok_nI c1
    simp (disch := omega) only [tn_nI] at c2 c3 c4 h1
    have h0' := h0 j hj c4
    have hi : ∃ i, i < 40 ∧ a = nI i := by
      obtain ⟨i, hi, rfl⟩ := ok_nI (n := 40) (x := a) ⟨c2.1, by have := c2.2.1 c4; omega⟩
      exact ⟨i, hi, rfl⟩
    have hk : ∃ i, i < 40 ∧ b = nI i := by
      obtain ⟨i, hi, rfl⟩ := ok_nI (n := 40) (x := b) ⟨c3.1, by have := c3.2.1 c4; omega⟩
      exact ⟨i, hi, rfl⟩
    obtain ⟨i, hi, rfl⟩ := hi
    obtain ⟨k, hk, rfl⟩ := hk
    simp (disch := omega) only [tn_nI, nI_t] at h1
    clear h2
    apply hR 100
    simp (maxSteps := 10000000) (disch := omega) only [hS, hn, sm_eqs, hf, ha, sm_b0, Int.reduceToNat, ↓reduceIte, Nat.reduceEqDiff, true_and, and_true, List.length_nil, List.length_cons, Nat.reduceAdd, Nat.reduceLeDiff, Nat.zero_le, false_implies, true_implies, not_true_eq_false, not_false_eq_true, implies_true, Nat.reduceSub, Nat.reduceMul, Nat.reduceDiv, reduceCtorEq, tn_clamp, nI_t, tn_nI, nI_add, pk_mul, rS_gS, rS_gA, rS_gL, rA_gS, rA_gA, rA_gL, rL_gS, rL_gA, rL_gL, and_self, and_false, false_and, if_true, if_false, true_or, or_true, or_false, false_or, sm_in, eqI, sI_s, Int32.toInt_zero, Int.natCast_zero, Int.natCast_one, Int.cast_ofNat_Int, Int.reduceEq, Int.reduceLT, Int.reduceLE, Int.reduceNeg, Int.reduceNe, ne_eq, n_up, g_up, e_cat, sp_X5_isAnswer, sp_X5_tellOneWay, z.1, z.2, z, c1, c2, c3, c4, hz]
    clear hn hf ha hS hR
    grind
  · have h2 := h2 hc
    apply hR 100
    simp (maxSteps := 10000000) (disch := omega) only [hS, hn, sm_eqs, hf, ha, sm_b0, Int.reduceToNat, ↓reduceIte, Nat.reduceEqDiff, true_and, and_true, List.length_nil, List.length_cons, Nat.reduceAdd, Nat.reduceLeDiff, Nat.zero_le, false_implies, true_implies, not_true_eq_false, not_false_eq_true, implies_true, Nat.reduceSub, Nat.reduceMul, Nat.reduceDiv, reduceCtorEq, tn_clamp, nI_t, tn_nI, nI_add, pk_mul, rS_gS, rS_gA, rS_gL, rA_gS, rA_gA, rA_gL, rL_gS, rL_gA, rL_gL, and_self, and_false, false_and, if_true, if_false, true_or, or_true, or_false, false_or, sm_in, eqI, sI_s, Int32.toInt_zero, Int.natCast_zero, Int.natCast_one, Int.cast_ofNat_Int, Int.reduceEq, Int.reduceLT, Int.reduceLE, Int.reduceNeg, Int.reduceNe, ne_eq, n_up, g_up, e_cat, sp_X5_isAnswer, sp_X5_tellOneWay, z.1, z.2, z]
    exact ⟨fun h1' => ⟨fun h2' => ⟨by have := h1'.1; simp only [okQ] at this; omega, fun h3 => absurd ⟨h1'.1, h1'.2, h2'.2, h3⟩ hc, fun _ => h2⟩, fun _ => h2⟩, fun _ => h2⟩
theorem ok_X5_tellOfTable (l : Launch) : sm_spok l lay sm_mt 2 71 sp_X5_tellOfTable := Or.inr (Or.inr (Or.inr ⟨by decide, by decide, by
  rw [mt_71]
  exact sm_method (T := TX5_) v_cok v_lok v_ka v_tok_X5 mok_X5_tellOfTable rfl (by unfold sm_rk; simp) wf_X5_tellOfTable (List.forall_mem_cons.mpr ⟨sm_spok_up (Nat.le_of_ble_eq_true rfl : 1 ≤ 1) (ok_X5_isAnswer l), List.forall_mem_cons.mpr ⟨sm_spok_up (Nat.le_of_ble_eq_true rfl : 1 ≤ 1) (ok_X5_tellOneWay l), fun _ h => absurd h List.not_mem_nil⟩⟩) b_X5_tellOfTable⟩))
