/-! The office's own methods: rows, matching. -/
/-- a row's length, and its answers, of the rows at p -/
def isX (g : sm_G) (rp x : Int32) : Prop := (rp.toInt ≠ 0 → okR g x) ∧ (rp.toInt = 0 → okT g x)
def sp_X9_isThere : sm_SP := fun as g K => match as with
  | [.ref p, .int b, .int x] => p = 0 ∧ zR g ∧ zT g ∧ (isX g b x → K (some (.int (nI 1))) g) ∧ (¬ isX g b x → K (some (.int (nI 0))) g)
  | _ => False
theorem wf_X9_isThere : sm_wf lay (yX9_isThere, cX9_isThere, 3, (some .boolean)) 3 false sp_X9_isThere := by
  intro as g K h
  simp only [sp_X9_isThere] at h
  split at h
  · exact ⟨Nat.le_of_ble_eq_true rfl, by simp, rfl, fun _ => by obtain rfl := h.1; exact ⟨0, _, 9, [3, 8, 11, 14, 17, 27, 33, 35, 48, 52, 53, 1], TX9, 12, rfl, rfl, rfl⟩⟩
  · exact h.elim
set_option maxHeartbeats 4000000 in
set_option maxRecDepth 100000 in
theorem b_X9_isThere : sm_body lay NX9_isThere 3 1 (sm_cl [(76, sp_X6_has), (91, sp_X8_has)]) sp_X9_isThere := by
  intro K J S hW as g hs
  have hn := n_X9_isThere
  have hf := fd_all
  have ha := ar_all
  generalize NX9_isThere = N at hn hW
  generalize lay = L at hf ha hW
  obtain ⟨hS, hR⟩ := hW
  simp only [sp_X9_isThere] at hs
  split at hs
  case h_2 => exact hs.elim
  simp only [e_args, sm_pad, List.length_cons, List.length_nil, Nat.reduceAdd, Nat.reduceSub, List.replicate_succ, List.replicate_zero, List.cons_append, List.nil_append]
  rename_i p b x
  obtain ⟨rfl, zr, zt, h1, h2⟩ := hs
  unfold isX at h1 h2
  apply hR 20
  simp (maxSteps := 10000000) (disch := omega) only [hS, hn, sm_eqs, hf, ha, sm_b0, Int.reduceToNat, ↓reduceIte, Nat.reduceEqDiff, true_and, and_true, List.length_nil, List.length_cons, Nat.reduceAdd, Nat.reduceLeDiff, Nat.zero_le, false_implies, true_implies, not_true_eq_false, not_false_eq_true, implies_true, Nat.reduceSub, Nat.reduceMul, Nat.reduceDiv, reduceCtorEq, tn_clamp, nI_t, tn_nI, nI_add, pk_mul, rS_gS, rS_gA, rS_gL, rA_gS, rA_gA, rA_gL, rL_gS, rL_gA, rL_gL, and_self, and_false, false_and, if_true, if_false, true_or, or_true, or_false, false_or, sm_in, eqI, sI_s, Int32.toInt_zero, Int.natCast_zero, Int.natCast_one, Int.cast_ofNat_Int, Int.reduceEq, Int.reduceLT, Int.reduceLE, Int.reduceNeg, Int.reduceNe, ne_eq, n_up, g_up, e_cat, fr_A, fr_O, fr_P, fr_L, sp_X6_has, sp_X8_has, zr, zt]
  clear hn hf ha hS hR
  grind
theorem ok_X9_isThere (l : Launch) : sm_spok l lay sm_mt 2 124 sp_X9_isThere := Or.inr (Or.inr (Or.inr ⟨by decide, by decide, by
  rw [mt_124]
  exact sm_method (T := TX9_) v_cok v_lok v_ka v_tok_X9 mok_X9_isThere rfl (by unfold sm_rk; simp) wf_X9_isThere (List.forall_mem_cons.mpr ⟨sm_spok_up (Nat.le_of_ble_eq_true rfl : 1 ≤ 1) (ok_X6_has l), List.forall_mem_cons.mpr ⟨sm_spok_up (Nat.le_of_ble_eq_true rfl : 1 ≤ 1) (ok_X8_has l), fun _ h => absurd h List.not_mem_nil⟩⟩) b_X9_isThere⟩))
def sp_X9_rowsOf : sm_SP := fun as g K => match as with
  | [.ref p, .int b] => p = 0 ∧ (b.toInt ≠ 0 → K (some (.ref 6)) g) ∧ (b.toInt = 0 → K (some (.ref 9)) g)
  | _ => False
theorem wf_X9_rowsOf : sm_wf lay (yX9_rowsOf, cX9_rowsOf, 2, (some (.object "FoundOffice$Rows"))) 2 false sp_X9_rowsOf := by
  intro as g K h
  simp only [sp_X9_rowsOf] at h
  split at h
  · exact ⟨Nat.le_of_ble_eq_true rfl, by simp, rfl, fun _ => by obtain rfl := h.1; exact ⟨0, _, 9, [3, 8, 11, 14, 17, 27, 33, 35, 48, 52, 53, 1], TX9, 12, rfl, rfl, rfl⟩⟩
  · exact h.elim
set_option maxHeartbeats 4000000 in
set_option maxRecDepth 100000 in
theorem b_X9_rowsOf : sm_body lay NX9_rowsOf 2 3 (sm_cl []) sp_X9_rowsOf := by
  intro K J S hW as g hs
  have hn := n_X9_rowsOf
  have hf := fd_all
  have ha := ar_all
  generalize NX9_rowsOf = N at hn hW
  generalize lay = L at hf ha hW
  obtain ⟨hS, hR⟩ := hW
  simp only [sp_X9_rowsOf] at hs
  split at hs
  case h_2 => exact hs.elim
  simp only [e_args, sm_pad, List.length_cons, List.length_nil, Nat.reduceAdd, Nat.reduceSub, List.replicate_succ, List.replicate_zero, List.cons_append, List.nil_append]
  rename_i p b
  obtain ⟨rfl, h1, h2⟩ := hs
  apply hR 20
  simp (maxSteps := 10000000) (disch := omega) only [hS, hn, sm_eqs, hf, ha, sm_b0, Int.reduceToNat, ↓reduceIte, Nat.reduceEqDiff, true_and, and_true, List.length_nil, List.length_cons, Nat.reduceAdd, Nat.reduceLeDiff, Nat.zero_le, false_implies, true_implies, not_true_eq_false, not_false_eq_true, implies_true, Nat.reduceSub, Nat.reduceMul, Nat.reduceDiv, reduceCtorEq, tn_clamp, nI_t, tn_nI, nI_add, pk_mul, rS_gS, rS_gA, rS_gL, rA_gS, rA_gA, rA_gL, rL_gS, rL_gA, rL_gL, and_self, and_false, false_and, if_true, if_false, true_or, or_true, or_false, false_or, sm_in, eqI, sI_s, Int32.toInt_zero, Int.natCast_zero, Int.natCast_one, Int.cast_ofNat_Int, Int.reduceEq, Int.reduceLT, Int.reduceLE, Int.reduceNeg, Int.reduceNe, ne_eq, n_up, g_up, e_cat, fr_A, fr_O, fr_P, fr_L]
  clear hn hf ha hS hR
  grind
theorem ok_X9_rowsOf (l : Launch) : sm_spok l lay sm_mt 1 125 sp_X9_rowsOf := Or.inr (Or.inr (Or.inr ⟨by decide, by decide, by
  rw [mt_125]
  exact sm_method (T := TX9_) v_cok v_lok v_ka v_tok_X9 mok_X9_rowsOf rfl (by unfold sm_rk; simp) wf_X9_rowsOf (fun _ h => absurd h List.not_mem_nil) b_X9_rowsOf⟩))
theorem isX_60 {g : sm_G} {b x : Int32} (zr : zR g) (zt : zT g) (h : isX g b x) : sm_in x 60 := by
  have h1 := zr.2
  have h2 := zt.2
  unfold isX okR okT at h
  unfold sm_in
  by_cases e : b.toInt = 0
  · have := h.2 e; omega
  · have := h.1 e; omega
/-- the rows that are meant -/
noncomputable def rwP (b : Int32) : Nat := if b.toInt = 0 then 9 else 6
theorem rwP_or (b : Int32) : rwP b = 6 ∨ rwP b = 9 := by unfold rwP; split; exact Or.inr rfl; exact Or.inl rfl
def sp_X9_mark : sm_SP := fun as g K => match as with
  | [.ref p, .int b, .int x, .int q, .int a] => p = 0 ∧ zR g ∧ zT g ∧ zQ g ∧ wL g 6 ∧ wL g 9 ∧ (isX g b x ∧ okQ g q ∧ (a.toInt = -1 ∨ vAns (rA g 2 (tn q)) (rA g 3 (tn q)) a) → K (some (.int (nI 1))) (putG g (rwP b) (tn x) (tn q) a)) ∧
      (¬ (isX g b x ∧ okQ g q ∧ (a.toInt = -1 ∨ vAns (rA g 2 (tn q)) (rA g 3 (tn q)) a)) → K (some (.int (nI 0))) g)
  | _ => False
theorem wf_X9_mark : sm_wf lay (yX9_mark, cX9_mark, 5, (some .boolean)) 5 false sp_X9_mark := by
  intro as g K h
  simp only [sp_X9_mark] at h
  split at h
  · exact ⟨Nat.le_of_ble_eq_true rfl, by simp, rfl, fun _ => by obtain rfl := h.1; exact ⟨0, _, 9, [3, 8, 11, 14, 17, 27, 33, 35, 48, 52, 53, 1], TX9, 12, rfl, rfl, rfl⟩⟩
  · exact h.elim
set_option maxHeartbeats 4000000 in
set_option maxRecDepth 100000 in
theorem b_X9_mark : sm_body lay NX9_mark 5 1 (sm_cl [(124, sp_X9_isThere), (66, sp_X5_has), (70, sp_X5_isAnswer), (125, sp_X9_rowsOf), (87, sp_X7_put)]) sp_X9_mark := by
  intro K J S hW as g hs
  have hn := n_X9_mark
  have hf := fd_all
  have ha := ar_all
  generalize NX9_mark = N at hn hW
  generalize lay = L at hf ha hW
  obtain ⟨hS, hR⟩ := hW
  simp only [sp_X9_mark] at hs
  split at hs
  case h_2 => exact hs.elim
  simp only [e_args, sm_pad, List.length_cons, List.length_nil, Nat.reduceAdd, Nat.reduceSub, List.replicate_succ, List.replicate_zero, List.cons_append, List.nil_append]
  rename_i p b x q a
  obtain ⟨rfl, zr, zt, zq, l6, l9, h1, h2⟩ := hs
  have z2 := zq.2
  have fx : isX g b x → 0 ≤ x.toInt ∧ x.toInt < 60 := fun h => isX_60 zr zt h
  have fq : okQ g q → 0 ≤ q.toInt ∧ q.toInt < 16 := fun h => by unfold okQ at h; omega
  have h1 := fun a b c => h1 ⟨a, b, c⟩
  clear l6 l9
  by_cases hb : b.toInt = 0
  · simp only [rwP, hb, if_true] at h1
    apply hR 60
    simp (maxSteps := 10000000) (disch := omega) only [hS, hn, sm_eqs, hf, ha, sm_b0, Int.reduceToNat, ↓reduceIte, Nat.reduceEqDiff, true_and, and_true, List.length_nil, List.length_cons, Nat.reduceAdd, Nat.reduceLeDiff, Nat.zero_le, false_implies, true_implies, not_true_eq_false, not_false_eq_true, implies_true, Nat.reduceSub, Nat.reduceMul, Nat.reduceDiv, reduceCtorEq, tn_clamp, nI_t, tn_nI, nI_add, pk_mul, rS_gS, rS_gA, rS_gL, rA_gS, rA_gA, rA_gL, rL_gS, rL_gA, rL_gL, and_self, and_false, false_and, if_true, if_false, true_or, or_true, or_false, false_or, sm_in, eqI, sI_s, Int32.toInt_zero, Int.natCast_zero, Int.natCast_one, Int.cast_ofNat_Int, Int.reduceEq, Int.reduceLT, Int.reduceLE, Int.reduceNeg, Int.reduceNe, ne_eq, n_up, g_up, e_cat, fr_A, fr_O, fr_P, fr_L, sp_X9_isThere, sp_X5_has, sp_X5_isAnswer, sp_X9_rowsOf, sp_X7_put, zr, zt, zq, hb]
    clear hn hf ha hS hR
    grind
  · simp only [rwP, hb, if_false] at h1
    apply hR 60
    simp (maxSteps := 10000000) (disch := omega) only [hS, hn, sm_eqs, hf, ha, sm_b0, Int.reduceToNat, ↓reduceIte, Nat.reduceEqDiff, true_and, and_true, List.length_nil, List.length_cons, Nat.reduceAdd, Nat.reduceLeDiff, Nat.zero_le, false_implies, true_implies, not_true_eq_false, not_false_eq_true, implies_true, Nat.reduceSub, Nat.reduceMul, Nat.reduceDiv, reduceCtorEq, tn_clamp, nI_t, tn_nI, nI_add, pk_mul, rS_gS, rS_gA, rS_gL, rA_gS, rA_gA, rA_gL, rL_gS, rL_gA, rL_gL, and_self, and_false, false_and, if_true, if_false, true_or, or_true, or_false, false_or, sm_in, eqI, sI_s, Int32.toInt_zero, Int.natCast_zero, Int.natCast_one, Int.cast_ofNat_Int, Int.reduceEq, Int.reduceLT, Int.reduceLE, Int.reduceNeg, Int.reduceNe, ne_eq, n_up, g_up, e_cat, fr_A, fr_O, fr_P, fr_L, sp_X9_isThere, sp_X5_has, sp_X5_isAnswer, sp_X9_rowsOf, sp_X7_put, zr, zt, zq, hb]
    clear hn hf ha hS hR
    grind
theorem ok_X9_mark (l : Launch) : sm_spok l lay sm_mt 3 120 sp_X9_mark := Or.inr (Or.inr (Or.inr ⟨by decide, by decide, by
  rw [mt_120]
  exact sm_method (T := TX9_) v_cok v_lok v_ka v_tok_X9 mok_X9_mark rfl (by unfold sm_rk; simp) wf_X9_mark (List.forall_mem_cons.mpr ⟨sm_spok_up (Nat.le_of_ble_eq_true rfl : 2 ≤ 2) (ok_X9_isThere l), List.forall_mem_cons.mpr ⟨sm_spok_up (Nat.le_of_ble_eq_true rfl : 1 ≤ 2) (ok_X5_has l), List.forall_mem_cons.mpr ⟨sm_spok_up (Nat.le_of_ble_eq_true rfl : 1 ≤ 2) (ok_X5_isAnswer l), List.forall_mem_cons.mpr ⟨sm_spok_up (Nat.le_of_ble_eq_true rfl : 1 ≤ 2) (ok_X9_rowsOf l), List.forall_mem_cons.mpr ⟨sm_spok_up (Nat.le_of_ble_eq_true rfl : 2 ≤ 2) (ok_X7_put l), fun _ h => absurd h List.not_mem_nil⟩⟩⟩⟩⟩) b_X9_mark⟩))
def sp_X9_tear : sm_SP := fun as g K => match as with
  | [.ref p, .int b, .int x, .int n] => p = 0 ∧ zR g ∧ zT g ∧ zQ g ∧ wL g 6 ∧ wL g 9 ∧
      (isX g b x ∧ (rA g (rwP b + 1) (tn x)).toInt ≠ -1 ∧ -1 ≤ n.toInt ∧ n.toInt ≤ (rA g (rwP b + 1) (tn x)).toInt → K (some (.int (nI 1))) (cutG g (rwP b) (tn x) n)) ∧
      (¬ (isX g b x ∧ (rA g (rwP b + 1) (tn x)).toInt ≠ -1 ∧ -1 ≤ n.toInt ∧ n.toInt ≤ (rA g (rwP b + 1) (tn x)).toInt) → K (some (.int (nI 0))) g)
  | _ => False
theorem wf_X9_tear : sm_wf lay (yX9_tear, cX9_tear, 4, (some .boolean)) 4 false sp_X9_tear := by
  intro as g K h
  simp only [sp_X9_tear] at h
  split at h
  · exact ⟨Nat.le_of_ble_eq_true rfl, by simp, rfl, fun _ => by obtain rfl := h.1; exact ⟨0, _, 9, [3, 8, 11, 14, 17, 27, 33, 35, 48, 52, 53, 1], TX9, 12, rfl, rfl, rfl⟩⟩
  · exact h.elim
set_option maxHeartbeats 4000000 in
set_option maxRecDepth 100000 in
theorem b_X9_tear : sm_body lay NX9_tear 4 1 (sm_cl [(124, sp_X9_isThere), (125, sp_X9_rowsOf), (88, sp_X7_cut)]) sp_X9_tear := by
  intro K J S hW as g hs
  have hn := n_X9_tear
  have hf := fd_all
  have ha := ar_all
  generalize NX9_tear = N at hn hW
  generalize lay = L at hf ha hW
  obtain ⟨hS, hR⟩ := hW
  simp only [sp_X9_tear] at hs
  split at hs
  case h_2 => exact hs.elim
  simp only [e_args, sm_pad, List.length_cons, List.length_nil, Nat.reduceAdd, Nat.reduceSub, List.replicate_succ, List.replicate_zero, List.cons_append, List.nil_append]
  rename_i p b x n
  obtain ⟨rfl, zr, zt, zq, l6, l9, h1, h2⟩ := hs
  have z2 := zq.2
  have hm : ∀ y : Int32, -1 ≤ y.toInt → y.toInt ≤ 16 → ∃ m : Nat, m ≤ 16 ∧ y.toInt = (nI m).toInt ∨ y.toInt = -1 := fun y a1 a2 => by
    by_cases e : y.toInt = -1
    · exact ⟨0, Or.inr e⟩
    · exact ⟨tn y, Or.inl ⟨by unfold tn; omega, by rw [nI_t (by unfold tn; omega)]; unfold tn; omega⟩⟩
  have fx : isX g b x → 0 ≤ x.toInt ∧ x.toInt < 60 ∧ (∃ m : Nat, m ≤ 16 ∧ (rA g 10 (tn x)).toInt = (nI m).toInt ∨ (rA g 10 (tn x)).toInt = -1) ∧ (∃ m : Nat, m ≤ 16 ∧ (rA g 7 (tn x)).toInt = (nI m).toInt ∨ (rA g 7 (tn x)).toInt = -1) := fun h => by
    have h3 := isX_60 zr zt h
    unfold sm_in at h3
    have h4 := l6 (tn x) (by unfold tn; omega)
    have h5 := l9 (tn x) (by unfold tn; omega)
    have h4 := And.intro h4.1 h4.2.1
    have h5 := And.intro h5.1 h5.2.1
    simp only [Nat.reduceAdd] at h4 h5
    exact ⟨h3.1, h3.2, hm _ h5.1 (by omega), hm _ h4.1 (by omega)⟩
  have h1 := fun a b c d => h1 ⟨a, b, c, d⟩
  clear l6 l9
  by_cases hb : b.toInt = 0
  · simp only [rwP, hb, if_true, Nat.reduceAdd] at h1 h2
    apply hR 60
    simp (maxSteps := 10000000) (disch := omega) only [hS, hn, sm_eqs, hf, ha, sm_b0, Int.reduceToNat, ↓reduceIte, Nat.reduceEqDiff, true_and, and_true, List.length_nil, List.length_cons, Nat.reduceAdd, Nat.reduceLeDiff, Nat.zero_le, false_implies, true_implies, not_true_eq_false, not_false_eq_true, implies_true, Nat.reduceSub, Nat.reduceMul, Nat.reduceDiv, reduceCtorEq, tn_clamp, nI_t, tn_nI, nI_add, pk_mul, rS_gS, rS_gA, rS_gL, rA_gS, rA_gA, rA_gL, rL_gS, rL_gA, rL_gL, and_self, and_false, false_and, if_true, if_false, true_or, or_true, or_false, false_or, sm_in, eqI, sI_s, Int32.toInt_zero, Int.natCast_zero, Int.natCast_one, Int.cast_ofNat_Int, Int.reduceEq, Int.reduceLT, Int.reduceLE, Int.reduceNeg, Int.reduceNe, ne_eq, n_up, g_up, e_cat, fr_A, fr_O, fr_P, fr_L, sp_X9_isThere, sp_X9_rowsOf, sp_X7_cut, zr, zt, zq, hb]
    clear hn hf ha hS hR hm
    repeat' (first | (refine And.intro ?_ ?_) | (intro _))
    all_goals (first | with_reducible assumption | omega | (have fx := fx (by assumption); first | omega | exact fx.2.2.1 | exact fx.2.2.2) | grind)
  · simp only [rwP, hb, if_false, Nat.reduceAdd] at h1 h2
    apply hR 60
    simp (maxSteps := 10000000) (disch := omega) only [hS, hn, sm_eqs, hf, ha, sm_b0, Int.reduceToNat, ↓reduceIte, Nat.reduceEqDiff, true_and, and_true, List.length_nil, List.length_cons, Nat.reduceAdd, Nat.reduceLeDiff, Nat.zero_le, false_implies, true_implies, not_true_eq_false, not_false_eq_true, implies_true, Nat.reduceSub, Nat.reduceMul, Nat.reduceDiv, reduceCtorEq, tn_clamp, nI_t, tn_nI, nI_add, pk_mul, rS_gS, rS_gA, rS_gL, rA_gS, rA_gA, rA_gL, rL_gS, rL_gA, rL_gL, and_self, and_false, false_and, if_true, if_false, true_or, or_true, or_false, false_or, sm_in, eqI, sI_s, Int32.toInt_zero, Int.natCast_zero, Int.natCast_one, Int.cast_ofNat_Int, Int.reduceEq, Int.reduceLT, Int.reduceLE, Int.reduceNeg, Int.reduceNe, ne_eq, n_up, g_up, e_cat, fr_A, fr_O, fr_P, fr_L, sp_X9_isThere, sp_X9_rowsOf, sp_X7_cut, zr, zt, zq, hb]
    clear hn hf ha hS hR hm
    repeat' (first | (refine And.intro ?_ ?_) | (intro _))
    all_goals (first | with_reducible assumption | omega | (have fx := fx (by assumption); first | omega | exact fx.2.2.1 | exact fx.2.2.2) | grind)
theorem ok_X9_tear (l : Launch) : sm_spok l lay sm_mt 3 121 sp_X9_tear := Or.inr (Or.inr (Or.inr ⟨by decide, by decide, by
  rw [mt_121]
  exact sm_method (T := TX9_) v_cok v_lok v_ka v_tok_X9 mok_X9_tear rfl (by unfold sm_rk; simp) wf_X9_tear (List.forall_mem_cons.mpr ⟨sm_spok_up (Nat.le_of_ble_eq_true rfl : 2 ≤ 2) (ok_X9_isThere l), List.forall_mem_cons.mpr ⟨sm_spok_up (Nat.le_of_ble_eq_true rfl : 1 ≤ 2) (ok_X9_rowsOf l), List.forall_mem_cons.mpr ⟨sm_spok_up (Nat.le_of_ble_eq_true rfl : 2 ≤ 2) (ok_X7_cut l), fun _ h => absurd h List.not_mem_nil⟩⟩⟩) b_X9_tear⟩))
def sp_X9_known : sm_SP := fun as g K => match as with
  | [.ref p, .int b, .int x, .int q] => p = 0 ∧ zR g ∧ zT g ∧ (isX g b x → K (some (.int (aC g (rwP b) x q))) g) ∧ (¬ isX g b x → K (some (.int (sI 0))) g)
  | _ => False
theorem wf_X9_known : sm_wf lay (yX9_known, cX9_known, 4, (some .int)) 4 false sp_X9_known := by
  intro as g K h
  simp only [sp_X9_known] at h
  split at h
  · exact ⟨Nat.le_of_ble_eq_true rfl, by simp, rfl, fun _ => by obtain rfl := h.1; exact ⟨0, _, 9, [3, 8, 11, 14, 17, 27, 33, 35, 48, 52, 53, 1], TX9, 12, rfl, rfl, rfl⟩⟩
  · exact h.elim
set_option maxHeartbeats 4000000 in
set_option maxRecDepth 100000 in
theorem b_X9_known : sm_body lay NX9_known 4 0 (sm_cl [(124, sp_X9_isThere), (125, sp_X9_rowsOf), (86, sp_X7_answerOf)]) sp_X9_known := by
  intro K J S hW as g hs
  have hn := n_X9_known
  have hf := fd_all
  have ha := ar_all
  generalize NX9_known = N at hn hW
  generalize lay = L at hf ha hW
  obtain ⟨hS, hR⟩ := hW
  simp only [sp_X9_known] at hs
  split at hs
  case h_2 => exact hs.elim
  simp only [e_args, sm_pad, List.length_cons, List.length_nil, Nat.reduceAdd, Nat.reduceSub, List.replicate_succ, List.replicate_zero, List.cons_append, List.nil_append]
  rename_i p b x q
  obtain ⟨rfl, zr, zt, h1, h2⟩ := hs
  by_cases hb : b.toInt = 0
  · simp only [rwP, hb, if_true] at h1
    apply hR 60
    simp (maxSteps := 10000000) (disch := omega) only [hS, hn, sm_eqs, hf, ha, sm_b0, Int.reduceToNat, ↓reduceIte, Nat.reduceEqDiff, true_and, and_true, List.length_nil, List.length_cons, Nat.reduceAdd, Nat.reduceLeDiff, Nat.zero_le, false_implies, true_implies, not_true_eq_false, not_false_eq_true, implies_true, Nat.reduceSub, Nat.reduceMul, Nat.reduceDiv, reduceCtorEq, tn_clamp, nI_t, tn_nI, nI_add, pk_mul, rS_gS, rS_gA, rS_gL, rA_gS, rA_gA, rA_gL, rL_gS, rL_gA, rL_gL, and_self, and_false, false_and, if_true, if_false, true_or, or_true, or_false, false_or, sm_in, eqI, sI_s, Int32.toInt_zero, Int.natCast_zero, Int.natCast_one, Int.cast_ofNat_Int, Int.reduceEq, Int.reduceLT, Int.reduceLE, Int.reduceNeg, Int.reduceNe, ne_eq, n_up, g_up, e_cat, fr_A, fr_O, fr_P, fr_L, sp_X9_isThere, sp_X9_rowsOf, sp_X7_answerOf, zr, zt, hb]
    repeat' (first | (refine And.intro ?_ ?_) | (intro _))
    all_goals (first | with_reducible assumption | omega | (exfalso; omega) | exact h1 (by assumption) | exact h2 (by assumption))
  · simp only [rwP, hb, if_false] at h1
    apply hR 60
    simp (maxSteps := 10000000) (disch := omega) only [hS, hn, sm_eqs, hf, ha, sm_b0, Int.reduceToNat, ↓reduceIte, Nat.reduceEqDiff, true_and, and_true, List.length_nil, List.length_cons, Nat.reduceAdd, Nat.reduceLeDiff, Nat.zero_le, false_implies, true_implies, not_true_eq_false, not_false_eq_true, implies_true, Nat.reduceSub, Nat.reduceMul, Nat.reduceDiv, reduceCtorEq, tn_clamp, nI_t, tn_nI, nI_add, pk_mul, rS_gS, rS_gA, rS_gL, rA_gS, rA_gA, rA_gL, rL_gS, rL_gA, rL_gL, and_self, and_false, false_and, if_true, if_false, true_or, or_true, or_false, false_or, sm_in, eqI, sI_s, Int32.toInt_zero, Int.natCast_zero, Int.natCast_one, Int.cast_ofNat_Int, Int.reduceEq, Int.reduceLT, Int.reduceLE, Int.reduceNeg, Int.reduceNe, ne_eq, n_up, g_up, e_cat, fr_A, fr_O, fr_P, fr_L, sp_X9_isThere, sp_X9_rowsOf, sp_X7_answerOf, zr, zt, hb]
    repeat' (first | (refine And.intro ?_ ?_) | (intro _))
    all_goals (first | with_reducible assumption | omega | (exfalso; omega) | exact h1 (by assumption) | exact h2 (by assumption))
theorem ok_X9_known (l : Launch) : sm_spok l lay sm_mt 3 122 sp_X9_known := Or.inr (Or.inr (Or.inr ⟨by decide, by decide, by
  rw [mt_122]
  exact sm_method (T := TX9_) v_cok v_lok v_ka v_tok_X9 mok_X9_known rfl (by unfold sm_rk; simp) wf_X9_known (List.forall_mem_cons.mpr ⟨sm_spok_up (Nat.le_of_ble_eq_true rfl : 2 ≤ 2) (ok_X9_isThere l), List.forall_mem_cons.mpr ⟨sm_spok_up (Nat.le_of_ble_eq_true rfl : 1 ≤ 2) (ok_X9_rowsOf l), List.forall_mem_cons.mpr ⟨sm_spok_up (Nat.le_of_ble_eq_true rfl : 2 ≤ 2) (ok_X7_answerOf l), fun _ h => absurd h List.not_mem_nil⟩⟩⟩) b_X9_known⟩))
def sp_X9_length : sm_SP := fun as g K => match as with
  | [.ref p, .int b, .int x] => p = 0 ∧ zR g ∧ zT g ∧ (isX g b x → K (some (.int (rA g (rwP b + 1) (tn x)))) g) ∧ (¬ isX g b x → K (some (.int (sI 0))) g)
  | _ => False
theorem wf_X9_length : sm_wf lay (yX9_length, cX9_length, 3, (some .int)) 3 false sp_X9_length := by
  intro as g K h
  simp only [sp_X9_length] at h
  split at h
  · exact ⟨Nat.le_of_ble_eq_true rfl, by simp, rfl, fun _ => by obtain rfl := h.1; exact ⟨0, _, 9, [3, 8, 11, 14, 17, 27, 33, 35, 48, 52, 53, 1], TX9, 12, rfl, rfl, rfl⟩⟩
  · exact h.elim
set_option maxHeartbeats 4000000 in
set_option maxRecDepth 100000 in
theorem b_X9_length : sm_body lay NX9_length 3 0 (sm_cl [(124, sp_X9_isThere), (125, sp_X9_rowsOf), (84, sp_X7_lengthOf)]) sp_X9_length := by
  intro K J S hW as g hs
  have hn := n_X9_length
  have hf := fd_all
  have ha := ar_all
  generalize NX9_length = N at hn hW
  generalize lay = L at hf ha hW
  obtain ⟨hS, hR⟩ := hW
  simp only [sp_X9_length] at hs
  split at hs
  case h_2 => exact hs.elim
  simp only [e_args, sm_pad, List.length_cons, List.length_nil, Nat.reduceAdd, Nat.reduceSub, List.replicate_succ, List.replicate_zero, List.cons_append, List.nil_append]
  rename_i p b x
  obtain ⟨rfl, zr, zt, h1, h2⟩ := hs
  have fx : isX g b x → 0 ≤ x.toInt ∧ x.toInt < 60 := fun h => isX_60 zr zt h
  by_cases hb : b.toInt = 0
  · simp only [rwP, hb, if_true, Nat.reduceAdd] at h1
    apply hR 60
    simp (maxSteps := 10000000) (disch := omega) only [hS, hn, sm_eqs, hf, ha, sm_b0, Int.reduceToNat, ↓reduceIte, Nat.reduceEqDiff, true_and, and_true, List.length_nil, List.length_cons, Nat.reduceAdd, Nat.reduceLeDiff, Nat.zero_le, false_implies, true_implies, not_true_eq_false, not_false_eq_true, implies_true, Nat.reduceSub, Nat.reduceMul, Nat.reduceDiv, reduceCtorEq, tn_clamp, nI_t, tn_nI, nI_add, pk_mul, rS_gS, rS_gA, rS_gL, rA_gS, rA_gA, rA_gL, rL_gS, rL_gA, rL_gL, and_self, and_false, false_and, if_true, if_false, true_or, or_true, or_false, false_or, sm_in, eqI, sI_s, Int32.toInt_zero, Int.natCast_zero, Int.natCast_one, Int.cast_ofNat_Int, Int.reduceEq, Int.reduceLT, Int.reduceLE, Int.reduceNeg, Int.reduceNe, ne_eq, n_up, g_up, e_cat, fr_A, fr_O, fr_P, fr_L, sp_X9_isThere, sp_X9_rowsOf, sp_X7_lengthOf, zr, zt, hb]
    clear hn hf ha hS hR
    grind
  · simp only [rwP, hb, if_false, Nat.reduceAdd] at h1
    apply hR 60
    simp (maxSteps := 10000000) (disch := omega) only [hS, hn, sm_eqs, hf, ha, sm_b0, Int.reduceToNat, ↓reduceIte, Nat.reduceEqDiff, true_and, and_true, List.length_nil, List.length_cons, Nat.reduceAdd, Nat.reduceLeDiff, Nat.zero_le, false_implies, true_implies, not_true_eq_false, not_false_eq_true, implies_true, Nat.reduceSub, Nat.reduceMul, Nat.reduceDiv, reduceCtorEq, tn_clamp, nI_t, tn_nI, nI_add, pk_mul, rS_gS, rS_gA, rS_gL, rA_gS, rA_gA, rA_gL, rL_gS, rL_gA, rL_gL, and_self, and_false, false_and, if_true, if_false, true_or, or_true, or_false, false_or, sm_in, eqI, sI_s, Int32.toInt_zero, Int.natCast_zero, Int.natCast_one, Int.cast_ofNat_Int, Int.reduceEq, Int.reduceLT, Int.reduceLE, Int.reduceNeg, Int.reduceNe, ne_eq, n_up, g_up, e_cat, fr_A, fr_O, fr_P, fr_L, sp_X9_isThere, sp_X9_rowsOf, sp_X7_lengthOf, zr, zt, hb]
    clear hn hf ha hS hR
    grind
theorem ok_X9_length (l : Launch) : sm_spok l lay sm_mt 3 123 sp_X9_length := Or.inr (Or.inr (Or.inr ⟨by decide, by decide, by
  rw [mt_123]
  exact sm_method (T := TX9_) v_cok v_lok v_ka v_tok_X9 mok_X9_length rfl (by unfold sm_rk; simp) wf_X9_length (List.forall_mem_cons.mpr ⟨sm_spok_up (Nat.le_of_ble_eq_true rfl : 2 ≤ 2) (ok_X9_isThere l), List.forall_mem_cons.mpr ⟨sm_spok_up (Nat.le_of_ble_eq_true rfl : 1 ≤ 2) (ok_X9_rowsOf l), List.forall_mem_cons.mpr ⟨sm_spok_up (Nat.le_of_ble_eq_true rfl : 2 ≤ 2) (ok_X7_lengthOf l), fun _ h => absurd h List.not_mem_nil⟩⟩⟩) b_X9_length⟩))
def sp_X9_arePair : sm_SP := fun as g K => match as with
  | [.ref p, .int r, .int t] => p = 0 ∧ zR g ∧ zT g ∧ (okR g r ∧ okT g t → K (some (.int (nI 1))) g) ∧ (¬ (okR g r ∧ okT g t) → K (some (.int (nI 0))) g)
  | _ => False
theorem wf_X9_arePair : sm_wf lay (yX9_arePair, cX9_arePair, 3, (some .boolean)) 3 false sp_X9_arePair := by
  intro as g K h
  simp only [sp_X9_arePair] at h
  split at h
  · exact ⟨Nat.le_of_ble_eq_true rfl, by simp, rfl, fun _ => by obtain rfl := h.1; exact ⟨0, _, 9, [3, 8, 11, 14, 17, 27, 33, 35, 48, 52, 53, 1], TX9, 12, rfl, rfl, rfl⟩⟩
  · exact h.elim
set_option maxHeartbeats 4000000 in
set_option maxRecDepth 100000 in
theorem b_X9_arePair : sm_body lay NX9_arePair 3 1 (sm_cl [(76, sp_X6_has), (91, sp_X8_has)]) sp_X9_arePair := by
  intro K J S hW as g hs
  have hn := n_X9_arePair
  have hf := fd_all
  have ha := ar_all
  generalize NX9_arePair = N at hn hW
  generalize lay = L at hf ha hW
  obtain ⟨hS, hR⟩ := hW
  simp only [sp_X9_arePair] at hs
  split at hs
  case h_2 => exact hs.elim
  simp only [e_args, sm_pad, List.length_cons, List.length_nil, Nat.reduceAdd, Nat.reduceSub, List.replicate_succ, List.replicate_zero, List.cons_append, List.nil_append]
  rename_i p r t
  obtain ⟨rfl, zr, zt, h1, h2⟩ := hs
  apply hR 60
  simp (maxSteps := 10000000) (disch := omega) only [hS, hn, sm_eqs, hf, ha, sm_b0, Int.reduceToNat, ↓reduceIte, Nat.reduceEqDiff, true_and, and_true, List.length_nil, List.length_cons, Nat.reduceAdd, Nat.reduceLeDiff, Nat.zero_le, false_implies, true_implies, not_true_eq_false, not_false_eq_true, implies_true, Nat.reduceSub, Nat.reduceMul, Nat.reduceDiv, reduceCtorEq, tn_clamp, nI_t, tn_nI, nI_add, pk_mul, rS_gS, rS_gA, rS_gL, rA_gS, rA_gA, rA_gL, rL_gS, rL_gA, rL_gL, and_self, and_false, false_and, if_true, if_false, true_or, or_true, or_false, false_or, sm_in, eqI, sI_s, Int32.toInt_zero, Int.natCast_zero, Int.natCast_one, Int.cast_ofNat_Int, Int.reduceEq, Int.reduceLT, Int.reduceLE, Int.reduceNeg, Int.reduceNe, ne_eq, n_up, g_up, e_cat, fr_A, fr_O, fr_P, fr_L, sp_X6_has, sp_X8_has, zr, zt]
  clear hn hf ha hS hR
  grind
theorem ok_X9_arePair (l : Launch) : sm_spok l lay sm_mt 2 129 sp_X9_arePair := Or.inr (Or.inr (Or.inr ⟨by decide, by decide, by
  rw [mt_129]
  exact sm_method (T := TX9_) v_cok v_lok v_ka v_tok_X9 mok_X9_arePair rfl (by unfold sm_rk; simp) wf_X9_arePair (List.forall_mem_cons.mpr ⟨sm_spok_up (Nat.le_of_ble_eq_true rfl : 1 ≤ 1) (ok_X6_has l), List.forall_mem_cons.mpr ⟨sm_spok_up (Nat.le_of_ble_eq_true rfl : 1 ≤ 1) (ok_X8_has l), fun _ h => absurd h List.not_mem_nil⟩⟩) b_X9_arePair⟩))
theorem okR_60 {g : sm_G} {r : Int32} (z : zR g) (h : okR g r) : 0 ≤ r.toInt ∧ r.toInt < 60 := by have := z.2; unfold okR at h; omega
theorem okT_60 {g : sm_G} {t : Int32} (z : zT g) (h : okT g t) : 0 ≤ t.toInt ∧ t.toInt < 60 := by have := z.2; unfold okT at h; omega
theorem okQ_16 {g : sm_G} {q : Int32} (z : zQ g) (h : okQ g q) : 0 ≤ q.toInt ∧ q.toInt < 16 := by have := z.2; unfold okQ at h; omega
def sp_X9_fits : sm_SP := fun as g K => match as with
  | [.ref p, .int r, .int t] => p = 0 ∧ zR g ∧ zT g ∧ wQ g ∧ wL g 6 ∧ wL g 9 ∧ (okR g r ∧ okT g t ∧ fitC g (tn r) (tn t) → K (some (.int (nI 1))) g) ∧ (okR g r ∧ okT g t ∧ ¬ fitC g (tn r) (tn t) → K (some (.int (nI 0))) g) ∧ (¬ (okR g r ∧ okT g t) → K (some (.int (sI 0))) g)
  | _ => False
theorem wf_X9_fits : sm_wf lay (yX9_fits, cX9_fits, 3, (some .int)) 3 false sp_X9_fits := by
  intro as g K h
  simp only [sp_X9_fits] at h
  split at h
  · exact ⟨Nat.le_of_ble_eq_true rfl, by simp, rfl, fun _ => by obtain rfl := h.1; exact ⟨0, _, 9, [3, 8, 11, 14, 17, 27, 33, 35, 48, 52, 53, 1], TX9, 12, rfl, rfl, rfl⟩⟩
  · exact h.elim
set_option maxHeartbeats 4000000 in
set_option maxRecDepth 100000 in
theorem b_X9_fits : sm_body lay NX9_fits 3 0 (sm_cl [(129, sp_X9_arePair), (57, sp_X4_isFit)]) sp_X9_fits := by
  intro K J S hW as g hs
  have hn := n_X9_fits
  have hf := fd_all
  have ha := ar_all
  generalize NX9_fits = N at hn hW
  generalize lay = L at hf ha hW
  obtain ⟨hS, hR⟩ := hW
  simp only [sp_X9_fits] at hs
  split at hs
  case h_2 => exact hs.elim
  simp only [e_args, sm_pad, List.length_cons, List.length_nil, Nat.reduceAdd, Nat.reduceSub, List.replicate_succ, List.replicate_zero, List.cons_append, List.nil_append]
  rename_i p r t
  obtain ⟨rfl, zr, zt, w, l6, l9, h1, h2, h3⟩ := hs
  have fr := fun h => okR_60 (r := r) zr h
  have ft := fun h => okT_60 (t := t) zt h
  apply hR 60
  simp (maxSteps := 10000000) (disch := omega) only [hS, hn, sm_eqs, hf, ha, sm_b0, Int.reduceToNat, ↓reduceIte, Nat.reduceEqDiff, true_and, and_true, List.length_nil, List.length_cons, Nat.reduceAdd, Nat.reduceLeDiff, Nat.zero_le, false_implies, true_implies, not_true_eq_false, not_false_eq_true, implies_true, Nat.reduceSub, Nat.reduceMul, Nat.reduceDiv, reduceCtorEq, tn_clamp, nI_t, tn_nI, nI_add, pk_mul, rS_gS, rS_gA, rS_gL, rA_gS, rA_gA, rA_gL, rL_gS, rL_gA, rL_gL, and_self, and_false, false_and, if_true, if_false, true_or, or_true, or_false, false_or, sm_in, eqI, sI_s, Int32.toInt_zero, Int.natCast_zero, Int.natCast_one, Int.cast_ofNat_Int, Int.reduceEq, Int.reduceLT, Int.reduceLE, Int.reduceNeg, Int.reduceNe, ne_eq, n_up, g_up, e_cat, fr_A, fr_O, fr_P, fr_L, sp_X9_arePair, sp_X4_isFit, zr, zt, w, l6, l9]
  clear hn hf ha hS hR
  grind
theorem ok_X9_fits (l : Launch) : sm_spok l lay sm_mt 5 126 sp_X9_fits := Or.inr (Or.inr (Or.inr ⟨by decide, by decide, by
  rw [mt_126]
  exact sm_method (T := TX9_) v_cok v_lok v_ka v_tok_X9 mok_X9_fits rfl (by unfold sm_rk; simp) wf_X9_fits (List.forall_mem_cons.mpr ⟨sm_spok_up (Nat.le_of_ble_eq_true rfl : 2 ≤ 4) (ok_X9_arePair l), List.forall_mem_cons.mpr ⟨sm_spok_up (Nat.le_of_ble_eq_true rfl : 4 ≤ 4) (ok_X4_isFit l), fun _ h => absurd h List.not_mem_nil⟩⟩) b_X9_fits⟩))
def sp_X9_tells : sm_SP := fun as g K => match as with
  | [.ref p, .int r, .int t] => p = 0 ∧ zR g ∧ zT g ∧ wQ g ∧ wL g 6 ∧ wL g 9 ∧ (okR g r ∧ okT g t → K (some (.int (oI (fcC g (tn r) (tn t))))) g) ∧ (¬ (okR g r ∧ okT g t) → K (some (.int (sI 0))) g)
  | _ => False
theorem wf_X9_tells : sm_wf lay (yX9_tells, cX9_tells, 3, (some .int)) 3 false sp_X9_tells := by
  intro as g K h
  simp only [sp_X9_tells] at h
  split at h
  · exact ⟨Nat.le_of_ble_eq_true rfl, by simp, rfl, fun _ => by obtain rfl := h.1; exact ⟨0, _, 9, [3, 8, 11, 14, 17, 27, 33, 35, 48, 52, 53, 1], TX9, 12, rfl, rfl, rfl⟩⟩
  · exact h.elim
set_option maxHeartbeats 4000000 in
set_option maxRecDepth 100000 in
theorem b_X9_tells : sm_body lay NX9_tells 3 0 (sm_cl [(129, sp_X9_arePair), (56, sp_X4_firstClash)]) sp_X9_tells := by
  intro K J S hW as g hs
  have hn := n_X9_tells
  have hf := fd_all
  have ha := ar_all
  generalize NX9_tells = N at hn hW
  generalize lay = L at hf ha hW
  obtain ⟨hS, hR⟩ := hW
  simp only [sp_X9_tells] at hs
  split at hs
  case h_2 => exact hs.elim
  simp only [e_args, sm_pad, List.length_cons, List.length_nil, Nat.reduceAdd, Nat.reduceSub, List.replicate_succ, List.replicate_zero, List.cons_append, List.nil_append]
  rename_i p r t
  obtain ⟨rfl, zr, zt, w, l6, l9, h1, h2⟩ := hs
  have fr := fun h => okR_60 (r := r) zr h
  have ft := fun h => okT_60 (t := t) zt h
  apply hR 60
  simp (maxSteps := 10000000) (disch := omega) only [hS, hn, sm_eqs, hf, ha, sm_b0, Int.reduceToNat, ↓reduceIte, Nat.reduceEqDiff, true_and, and_true, List.length_nil, List.length_cons, Nat.reduceAdd, Nat.reduceLeDiff, Nat.zero_le, false_implies, true_implies, not_true_eq_false, not_false_eq_true, implies_true, Nat.reduceSub, Nat.reduceMul, Nat.reduceDiv, reduceCtorEq, tn_clamp, nI_t, tn_nI, nI_add, pk_mul, rS_gS, rS_gA, rS_gL, rA_gS, rA_gA, rA_gL, rL_gS, rL_gA, rL_gL, and_self, and_false, false_and, if_true, if_false, true_or, or_true, or_false, false_or, sm_in, eqI, sI_s, Int32.toInt_zero, Int.natCast_zero, Int.natCast_one, Int.cast_ofNat_Int, Int.reduceEq, Int.reduceLT, Int.reduceLE, Int.reduceNeg, Int.reduceNe, ne_eq, n_up, g_up, e_cat, fr_A, fr_O, fr_P, fr_L, sp_X9_arePair, sp_X4_firstClash, zr, zt, w, l6, l9]
  clear hn hf ha hS hR
  grind
theorem ok_X9_tells (l : Launch) : sm_spok l lay sm_mt 4 127 sp_X9_tells := Or.inr (Or.inr (Or.inr ⟨by decide, by decide, by
  rw [mt_127]
  exact sm_method (T := TX9_) v_cok v_lok v_ka v_tok_X9 mok_X9_tells rfl (by unfold sm_rk; simp) wf_X9_tells (List.forall_mem_cons.mpr ⟨sm_spok_up (Nat.le_of_ble_eq_true rfl : 2 ≤ 3) (ok_X9_arePair l), List.forall_mem_cons.mpr ⟨sm_spok_up (Nat.le_of_ble_eq_true rfl : 3 ≤ 3) (ok_X4_firstClash l), fun _ h => absurd h List.not_mem_nil⟩⟩) b_X9_tells⟩))
def sp_X9_strength : sm_SP := fun as g K => match as with
  | [.ref p, .int r, .int t] => p = 0 ∧ zR g ∧ zT g ∧ wQ g ∧ wL g 6 ∧ wL g 9 ∧ (okR g r ∧ okT g t ∧ fitC g (tn r) (tn t) → ∀ f, K (some (.int (stC g (tn r) (tn t)))) (gA g 32 f)) ∧ (okR g r ∧ okT g t ∧ ¬ fitC g (tn r) (tn t) → K (some (.int (sI 0))) g) ∧ (¬ (okR g r ∧ okT g t) → K (some (.int (sI 0))) g)
  | _ => False
theorem wf_X9_strength : sm_wf lay (yX9_strength, cX9_strength, 3, (some .int)) 3 false sp_X9_strength := by
  intro as g K h
  simp only [sp_X9_strength] at h
  split at h
  · exact ⟨Nat.le_of_ble_eq_true rfl, by simp, rfl, fun _ => by obtain rfl := h.1; exact ⟨0, _, 9, [3, 8, 11, 14, 17, 27, 33, 35, 48, 52, 53, 1], TX9, 12, rfl, rfl, rfl⟩⟩
  · exact h.elim
set_option maxHeartbeats 4000000 in
set_option maxRecDepth 100000 in
theorem b_X9_strength : sm_body lay NX9_strength 3 0 (sm_cl [(129, sp_X9_arePair), (62, sp_X4_strengthOf)]) sp_X9_strength := by
  intro K J S hW as g hs
  have hn := n_X9_strength
  have hf := fd_all
  have ha := ar_all
  generalize NX9_strength = N at hn hW
  generalize lay = L at hf ha hW
  obtain ⟨hS, hR⟩ := hW
  simp only [sp_X9_strength] at hs
  split at hs
  case h_2 => exact hs.elim
  simp only [e_args, sm_pad, List.length_cons, List.length_nil, Nat.reduceAdd, Nat.reduceSub, List.replicate_succ, List.replicate_zero, List.cons_append, List.nil_append]
  rename_i p r t
  obtain ⟨rfl, zr, zt, w, l6, l9, h1, h2, h3⟩ := hs
  have fr := fun h => okR_60 (r := r) zr h
  have ft := fun h => okT_60 (t := t) zt h
  apply hR 60
  simp (maxSteps := 10000000) (disch := omega) only [hS, hn, sm_eqs, hf, ha, sm_b0, Int.reduceToNat, ↓reduceIte, Nat.reduceEqDiff, true_and, and_true, List.length_nil, List.length_cons, Nat.reduceAdd, Nat.reduceLeDiff, Nat.zero_le, false_implies, true_implies, not_true_eq_false, not_false_eq_true, implies_true, Nat.reduceSub, Nat.reduceMul, Nat.reduceDiv, reduceCtorEq, tn_clamp, nI_t, tn_nI, nI_add, pk_mul, rS_gS, rS_gA, rS_gL, rA_gS, rA_gA, rA_gL, rL_gS, rL_gA, rL_gL, and_self, and_false, false_and, if_true, if_false, true_or, or_true, or_false, false_or, sm_in, eqI, sI_s, Int32.toInt_zero, Int.natCast_zero, Int.natCast_one, Int.cast_ofNat_Int, Int.reduceEq, Int.reduceLT, Int.reduceLE, Int.reduceNeg, Int.reduceNe, ne_eq, n_up, g_up, e_cat, fr_A, fr_O, fr_P, fr_L, sp_X9_arePair, sp_X4_strengthOf, zr, zt, w, l6, l9]
  clear hn hf ha hS hR
  grind
theorem ok_X9_strength (l : Launch) : sm_spok l lay sm_mt 6 128 sp_X9_strength := Or.inr (Or.inr (Or.inr ⟨by decide, by decide, by
  rw [mt_128]
  exact sm_method (T := TX9_) v_cok v_lok v_ka v_tok_X9 mok_X9_strength rfl (by unfold sm_rk; simp) wf_X9_strength (List.forall_mem_cons.mpr ⟨sm_spok_up (Nat.le_of_ble_eq_true rfl : 2 ≤ 5) (ok_X9_arePair l), List.forall_mem_cons.mpr ⟨sm_spok_up (Nat.le_of_ble_eq_true rfl : 5 ≤ 5) (ok_X4_strengthOf l), fun _ h => absurd h List.not_mem_nil⟩⟩) b_X9_strength⟩))
