/-! The office's own methods: rows, matching. -/
/-- a row's length, and its answers, of the rows at p -/
def isX (g : sm_G) (rp x : Int32) : Prop := (rp.toInt ≠ 0 → okR g x) ∧ (rp.toInt = 0 → okT g x)
def sp_X9_isThere : sm_SP := fun as g K => match as with
  | [.ref p, .int b, .int x] => p = 0 ∧ zR g ∧ zT g ∧ (isX g b x → K (some (.int (nI 1))) g) ∧ (¬ isX g b x → K (some (.int (nI 0))) g)
  | _ => False
theorem wf_X9_isThere : sm_wf lay (yX9_isThere, cX9_isThere, 3, (some .boolean)) 3 false sp_X9_isThere := by
  intro as g K h
  simp only [sp_X9_isThere] at h
  split at h
  · exact ⟨Nat.le_of_ble_eq_true rfl, by simp, rfl, fun _ => by obtain rfl := h.1; exact ⟨0, _, 9, [3, 8, 11, 14, 17, 27, 33, 35, 48, 52, 53, 54, 1], TX9, 13, rfl, rfl, rfl⟩⟩
  · exact h.elim
set_option maxHeartbeats 4000000 in
set_option maxRecDepth 100000 in
theorem b_X9_isThere : sm_body lay NX9_isThere 3 1 (sm_cl [(76, sp_X6_has), (90, sp_X8_has)]) sp_X9_isThere := by
  intro K J S hW as g hs
  have hn := n_X9_isThere
  have hf := fd_all
  have ha := ar_all
  generalize NX9_isThere = N at hn hW
  generalize lay = L at hf ha hW
  obtain ⟨hS, hR⟩ := hW
  simp only [sp_X9_isThere] at hs
  split at hs
  case h_2 => exact hs.elim
  simp only [e_args, sm_pad, List.length_cons, List.length_nil, Nat.reduceAdd, Nat.reduceSub, List.replicate_succ, List.replicate_zero, List.cons_append, List.nil_append]
  rename_i p b x
  obtain ⟨rfl, zr, zt, h1, h2⟩ := hs
  unfold isX at h1 h2
  apply hR 20
  simp (maxSteps := 10000000) (disch := omega) only [hS, hn, sm_eqs, hf, ha, sm_b0, Int.reduceToNat, ↓reduceIte, Nat.reduceEqDiff, true_and, and_true, List.length_nil, List.length_cons, Nat.reduceAdd, Nat.reduceLeDiff, Nat.zero_le, false_implies, true_implies, not_true_eq_false, not_false_eq_true, implies_true, Nat.reduceSub, Nat.reduceMul, reduceCtorEq, tn_clamp, nI_t, tn_nI, nI_add, pk_mul, rS_gS, rS_gA, rS_gL, rA_gS, rA_gA, rA_gL, rL_gS, rL_gA, rL_gL, and_self, and_false, false_and, if_true, if_false, true_or, or_true, or_false, false_or, sm_in, eqI, sI_s, Int32.toInt_zero, Int.natCast_zero, Int.natCast_one, Int.cast_ofNat_Int, Int.reduceEq, Int.reduceLT, Int.reduceLE, Int.reduceNeg, Int.reduceNe, ne_eq, n_up, g_up, e_cat, fr_A, fr_O, fr_P, fr_L, sp_X6_has, sp_X8_has, zr, zt]
  clear hn hf ha hS hR
  grind
theorem ok_X9_isThere (l : Launch) : sm_spok l lay sm_mt 2 123 sp_X9_isThere := Or.inr (Or.inr (Or.inr ⟨by decide, by decide, by
  rw [mt_123]
  exact sm_method (T := TX9_) v_cok v_lok v_ka v_tok_X9 mok_X9_isThere rfl (by unfold sm_rk; simp) wf_X9_isThere (List.forall_mem_cons.mpr ⟨sm_spok_up (Nat.le_of_ble_eq_true rfl : 1 ≤ 1) (ok_X6_has l), List.forall_mem_cons.mpr ⟨sm_spok_up (Nat.le_of_ble_eq_true rfl : 1 ≤ 1) (ok_X8_has l), fun _ h => absurd h List.not_mem_nil⟩⟩) b_X9_isThere⟩))
def sp_X9_rowsOf : sm_SP := fun as g K => match as with
  | [.ref p, .int b] => p = 0 ∧ (b.toInt ≠ 0 → K (some (.ref 6)) g) ∧ (b.toInt = 0 → K (some (.ref 9)) g)
  | _ => False
theorem wf_X9_rowsOf : sm_wf lay (yX9_rowsOf, cX9_rowsOf, 2, (some (.object "FoundOffice$Rows"))) 2 false sp_X9_rowsOf := by
  intro as g K h
  simp only [sp_X9_rowsOf] at h
  split at h
  · exact ⟨Nat.le_of_ble_eq_true rfl, by simp, rfl, fun _ => by obtain rfl := h.1; exact ⟨0, _, 9, [3, 8, 11, 14, 17, 27, 33, 35, 48, 52, 53, 54, 1], TX9, 13, rfl, rfl, rfl⟩⟩
  · exact h.elim
set_option maxHeartbeats 4000000 in
set_option maxRecDepth 100000 in
theorem b_X9_rowsOf : sm_body lay NX9_rowsOf 2 3 (sm_cl []) sp_X9_rowsOf := by
  intro K J S hW as g hs
  have hn := n_X9_rowsOf
  have hf := fd_all
  have ha := ar_all
  generalize NX9_rowsOf = N at hn hW
  generalize lay = L at hf ha hW
  obtain ⟨hS, hR⟩ := hW
  simp only [sp_X9_rowsOf] at hs
  split at hs
  case h_2 => exact hs.elim
  simp only [e_args, sm_pad, List.length_cons, List.length_nil, Nat.reduceAdd, Nat.reduceSub, List.replicate_succ, List.replicate_zero, List.cons_append, List.nil_append]
  rename_i p b
  obtain ⟨rfl, h1, h2⟩ := hs
  apply hR 20
  simp (maxSteps := 10000000) (disch := omega) only [hS, hn, sm_eqs, hf, ha, sm_b0, Int.reduceToNat, ↓reduceIte, Nat.reduceEqDiff, true_and, and_true, List.length_nil, List.length_cons, Nat.reduceAdd, Nat.reduceLeDiff, Nat.zero_le, false_implies, true_implies, not_true_eq_false, not_false_eq_true, implies_true, Nat.reduceSub, Nat.reduceMul, reduceCtorEq, tn_clamp, nI_t, tn_nI, nI_add, pk_mul, rS_gS, rS_gA, rS_gL, rA_gS, rA_gA, rA_gL, rL_gS, rL_gA, rL_gL, and_self, and_false, false_and, if_true, if_false, true_or, or_true, or_false, false_or, sm_in, eqI, sI_s, Int32.toInt_zero, Int.natCast_zero, Int.natCast_one, Int.cast_ofNat_Int, Int.reduceEq, Int.reduceLT, Int.reduceLE, Int.reduceNeg, Int.reduceNe, ne_eq, n_up, g_up, e_cat, fr_A, fr_O, fr_P, fr_L]
  clear hn hf ha hS hR
  grind
theorem ok_X9_rowsOf (l : Launch) : sm_spok l lay sm_mt 1 124 sp_X9_rowsOf := Or.inr (Or.inr (Or.inr ⟨by decide, by decide, by
  rw [mt_124]
  exact sm_method (T := TX9_) v_cok v_lok v_ka v_tok_X9 mok_X9_rowsOf rfl (by unfold sm_rk; simp) wf_X9_rowsOf (fun _ h => absurd h List.not_mem_nil) b_X9_rowsOf⟩))
theorem isX_60 {g : sm_G} {b x : Int32} (zr : zR g) (zt : zT g) (h : isX g b x) : sm_in x 60 := by
  have h1 := zr.2
  have h2 := zt.2
  unfold isX okR okT at h
  unfold sm_in
  by_cases e : b.toInt = 0
  · have := h.2 e; omega
  · have := h.1 e; omega
/-- the rows that are meant -/
noncomputable def rwP (b : Int32) : Nat := if b.toInt = 0 then 9 else 6
theorem rwP_or (b : Int32) : rwP b = 6 ∨ rwP b = 9 := by unfold rwP; split; exact Or.inr rfl; exact Or.inl rfl
def putG (g : sm_G) (p x q : Nat) (a : Int32) : sm_G := gA (gA g (p + 2) (upd (if (rA g (p + 1) x).toInt < (q : Int) then fil (rA g (p + 2)) (x * 16) (tn (rA g (p + 1) x)) q else rA g (p + 2)) (x * 16 + q) a)) (p + 1) (upd (rA g (p + 1)) x (if (rA g (p + 1) x).toInt < ((q + 1 : Nat) : Int) then nI (q + 1) else rA g (p + 1) x))
def sp_X9_mark : sm_SP := fun as g K => match as with
  | [.ref p, .int b, .int x, .int q, .int a] => p = 0 ∧ zR g ∧ zT g ∧ zQ g ∧ wL g 6 ∧ wL g 9 ∧ (isX g b x ∧ okQ g q ∧ (a.toInt = -1 ∨ vAns (rA g 2 (tn q)) (rA g 3 (tn q)) a) → K (some (.int (nI 1))) (putG g (rwP b) (tn x) (tn q) a)) ∧
      (¬ (isX g b x ∧ okQ g q ∧ (a.toInt = -1 ∨ vAns (rA g 2 (tn q)) (rA g 3 (tn q)) a)) → K (some (.int (nI 0))) g)
  | _ => False
theorem wf_X9_mark : sm_wf lay (yX9_mark, cX9_mark, 5, (some .boolean)) 5 false sp_X9_mark := by
  intro as g K h
  simp only [sp_X9_mark] at h
  split at h
  · exact ⟨Nat.le_of_ble_eq_true rfl, by simp, rfl, fun _ => by obtain rfl := h.1; exact ⟨0, _, 9, [3, 8, 11, 14, 17, 27, 33, 35, 48, 52, 53, 54, 1], TX9, 13, rfl, rfl, rfl⟩⟩
  · exact h.elim
set_option maxHeartbeats 4000000 in
set_option maxRecDepth 100000 in
theorem b_X9_mark : sm_body lay NX9_mark 5 1 (sm_cl [(123, sp_X9_isThere), (66, sp_X5_has), (70, sp_X5_isAnswer), (124, sp_X9_rowsOf), (86, sp_X7_put)]) sp_X9_mark := by
  intro K J S hW as g hs
  have hn := n_X9_mark
  have hf := fd_all
  have ha := ar_all
  generalize NX9_mark = N at hn hW
  generalize lay = L at hf ha hW
  obtain ⟨hS, hR⟩ := hW
  simp only [sp_X9_mark] at hs
  split at hs
  case h_2 => exact hs.elim
  simp only [e_args, sm_pad, List.length_cons, List.length_nil, Nat.reduceAdd, Nat.reduceSub, List.replicate_succ, List.replicate_zero, List.cons_append, List.nil_append]
  rename_i p b x q a
  obtain ⟨rfl, zr, zt, zq, l6, l9, h1, h2⟩ := hs
  have z2 := zq.2
  have hx6 := fun h : isX g b x => isX_60 zr zt h
  by_cases hb : b.toInt = 0
  · have hbb : ¬ ¬ b.toInt = 0 := fun h => h hb
    apply hR 60
    simp (maxSteps := 10000000) (disch := omega) only [hS, hn, sm_eqs, hf, ha, sm_b0, Int.reduceToNat, ↓reduceIte, Nat.reduceEqDiff, true_and, and_true, List.length_nil, List.length_cons, Nat.reduceAdd, Nat.reduceLeDiff, Nat.zero_le, false_implies, true_implies, not_true_eq_false, not_false_eq_true, implies_true, Nat.reduceSub, Nat.reduceMul, reduceCtorEq, tn_clamp, nI_t, tn_nI, nI_add, pk_mul, rS_gS, rS_gA, rS_gL, rA_gS, rA_gA, rA_gL, rL_gS, rL_gA, rL_gL, and_self, and_false, false_and, if_true, if_false, true_or, or_true, or_false, false_or, sm_in, eqI, sI_s, Int32.toInt_zero, Int.natCast_zero, Int.natCast_one, Int.cast_ofNat_Int, Int.reduceEq, Int.reduceLT, Int.reduceLE, Int.reduceNeg, Int.reduceNe, ne_eq, n_up, g_up, e_cat, fr_A, fr_O, fr_P, fr_L, sp_X9_isThere, sp_X5_has, sp_X5_isAnswer, sp_X9_rowsOf, sp_X7_put, zr, zt, zq, hb]
    clear hn hf ha hS hR
    done
  · apply hR 60
    simp (maxSteps := 10000000) (disch := omega) only [hS, hn, sm_eqs, hf, ha, sm_b0, Int.reduceToNat, ↓reduceIte, Nat.reduceEqDiff, true_and, and_true, List.length_nil, List.length_cons, Nat.reduceAdd, Nat.reduceLeDiff, Nat.zero_le, false_implies, true_implies, not_true_eq_false, not_false_eq_true, implies_true, Nat.reduceSub, Nat.reduceMul, reduceCtorEq, tn_clamp, nI_t, tn_nI, nI_add, pk_mul, rS_gS, rS_gA, rS_gL, rA_gS, rA_gA, rA_gL, rL_gS, rL_gA, rL_gL, and_self, and_false, false_and, if_true, if_false, true_or, or_true, or_false, false_or, sm_in, eqI, sI_s, Int32.toInt_zero, Int.natCast_zero, Int.natCast_one, Int.cast_ofNat_Int, Int.reduceEq, Int.reduceLT, Int.reduceLE, Int.reduceNeg, Int.reduceNe, ne_eq, n_up, g_up, e_cat, fr_A, fr_O, fr_P, fr_L, sp_X9_isThere, sp_X5_has, sp_X5_isAnswer, sp_X9_rowsOf, sp_X7_put, zr, zt, zq, hb]
    clear hn hf ha hS hR
    done
theorem ok_X9_mark (l : Launch) : sm_spok l lay sm_mt 3 119 sp_X9_mark := Or.inr (Or.inr (Or.inr ⟨by decide, by decide, by
  rw [mt_119]
  exact sm_method (T := TX9_) v_cok v_lok v_ka v_tok_X9 mok_X9_mark rfl (by unfold sm_rk; simp) wf_X9_mark (List.forall_mem_cons.mpr ⟨sm_spok_up (Nat.le_of_ble_eq_true rfl : 2 ≤ 2) (ok_X9_isThere l), List.forall_mem_cons.mpr ⟨sm_spok_up (Nat.le_of_ble_eq_true rfl : 1 ≤ 2) (ok_X5_has l), List.forall_mem_cons.mpr ⟨sm_spok_up (Nat.le_of_ble_eq_true rfl : 1 ≤ 2) (ok_X5_isAnswer l), List.forall_mem_cons.mpr ⟨sm_spok_up (Nat.le_of_ble_eq_true rfl : 1 ≤ 2) (ok_X9_rowsOf l), List.forall_mem_cons.mpr ⟨sm_spok_up (Nat.le_of_ble_eq_true rfl : 2 ≤ 2) (ok_X7_put l), fun _ h => absurd h List.not_mem_nil⟩⟩⟩⟩⟩) b_X9_mark⟩))
