/-! How many bits: the JDK's two. -/
def us32 (x : Int32) (k : Nat) : Int32 := (x.toUInt32 >>> ((nI k).toUInt32 &&& Int32.toUInt32 31)).toInt32
def bc1 (x : Int32) : Int32 := x - (us32 x 1 &&& nI 1431655765)
def bc2 (x : Int32) : Int32 := (x &&& nI 858993459) + (us32 x 2 &&& nI 858993459)
def bc3 (x : Int32) : Int32 := (x + us32 x 4) &&& nI 252645135
def bc4 (x : Int32) : Int32 := x + us32 x 8
def bc5 (x : Int32) : Int32 := x + us32 x 16
def bc32 (x : Int32) : Int32 := bc5 (bc4 (bc3 (bc2 (bc1 x)))) &&& nI 63
set_option maxRecDepth 100000 in
theorem bc_all : ∀ m, m < 4096 → bc32 (nI m) = nI (cnt (fun i => m.testBit i) 32) := by decide +kernel
theorem bc_of {x : Int32} (h : ∃ m, m < 4096 ∧ x = nI m) : bc32 x = nI (cnt (bitI x) 32) := by
  obtain ⟨m, hm, rfl⟩ := h
  rw [bc_all m hm, cnt_congr (f := bitI (nI m)) (h := fun i => m.testBit i) 32 (fun i _ => bi_nI (by omega))]
def sp_J6_bitCount_0f7a4 : sm_SP := fun as g K => match as with
  | [.int x] => K (some (.int (bc32 x))) g
  | _ => False
theorem wf_J6_bitCount_0f7a4 : sm_wf lay (yJ6_bitCount_0f7a4, cJ6_bitCount_0f7a4, 1, (some .int)) 1 true sp_J6_bitCount_0f7a4 := by
  intro as g K h
  simp only [sp_J6_bitCount_0f7a4] at h
  split at h
  · exact ⟨Nat.le_of_ble_eq_true rfl, by simp, rfl, fun h => by cases h⟩
  · exact h.elim
set_option maxHeartbeats 4000000 in
set_option maxRecDepth 100000 in
theorem b_J6_bitCount_0f7a4 : sm_body lay NJ6_bitCount_0f7a4 1 0 (sm_cl []) sp_J6_bitCount_0f7a4 := by
  intro K J S hW as g hs
  have hn := n_J6_bitCount_0f7a4
  have hf := fd_all
  have ha := ar_all
  generalize NJ6_bitCount_0f7a4 = N at hn hW
  generalize lay = L at hf ha hW
  obtain ⟨hS, hR⟩ := hW
  simp only [sp_J6_bitCount_0f7a4] at hs
  split at hs
  case h_2 => exact hs.elim
  simp only [e_args, sm_pad, List.length_cons, List.length_nil, Nat.reduceAdd, Nat.reduceSub, List.replicate_succ, List.replicate_zero, List.cons_append, List.nil_append]
  rename_i x
  apply hR 60
  simp (maxSteps := 10000000) (disch := omega) only [hS, hn, sm_eqs, hf, ha, sm_b0, Int.reduceToNat, ↓reduceIte, Nat.reduceEqDiff, true_and, and_true, List.length_nil, List.length_cons, Nat.reduceAdd, Nat.reduceLeDiff, Nat.zero_le, false_implies, true_implies, not_true_eq_false, not_false_eq_true, implies_true, Nat.reduceSub, Nat.reduceMul, Nat.reduceDiv, reduceCtorEq, tn_clamp, nI_t, tn_nI, nI_add, pk_mul, rS_gS, rS_gA, rS_gL, rA_gS, rA_gA, rA_gL, rL_gS, rL_gA, rL_gL, and_self, and_false, false_and, if_true, if_false, true_or, or_true, or_false, false_or, sm_in, eqI, sI_s, Int32.toInt_zero, Int.natCast_zero, Int.natCast_one, Int.cast_ofNat_Int, Int.reduceEq, Int.reduceLT, Int.reduceLE, Int.reduceNeg, Int.reduceNe, ne_eq, n_up, g_up, e_cat, fr_A, fr_O, fr_P, fr_L]
  exact hs
theorem ok_J6_bitCount_0f7a4 (l : Launch) : sm_spok l lay sm_mt 1 226 sp_J6_bitCount_0f7a4 := Or.inr (Or.inr (Or.inr ⟨by decide, by decide, by
  rw [mt_226]
  exact sm_method (T := TJ6_) v_cok v_lok v_ka v_tok_J6 mok_J6_bitCount_0f7a4 rfl (by unfold sm_rk; simp) wf_J6_bitCount_0f7a4 (fun _ h => absurd h List.not_mem_nil) b_J6_bitCount_0f7a4⟩))
def us64 (x : Int64) (k : Nat) : Int64 := (x.toUInt64 >>> ((nI k).toInt64.toUInt64 &&& Int64.toUInt64 63)).toInt64
def bl1 (x : Int64) : Int64 := x - (us64 x 1 &&& lN 6148914691236517205)
def bl2 (x : Int64) : Int64 := (x &&& lN 3689348814741910323) + (us64 x 2 &&& lN 3689348814741910323)
def bl3 (x : Int64) : Int64 := (x + us64 x 4) &&& lN 1085102592571150095
def bl4 (x : Int64) : Int64 := x + us64 x 8
def bl5 (x : Int64) : Int64 := x + us64 x 16
def bl6 (x : Int64) : Int64 := x + us64 x 32
def bc64 (x : Int64) : Int32 := (bl6 (bl5 (bl4 (bl3 (bl2 (bl1 x)))))).toInt32 &&& nI 127
def sp_J13_bitCount_95d88 : sm_SP := fun as g K => match as with
  | [.long x] => K (some (.int (bc64 x))) g
  | _ => False
theorem wf_J13_bitCount_95d88 : sm_wf lay (yJ13_bitCount_95d88, cJ13_bitCount_95d88, 2, (some .int)) 1 true sp_J13_bitCount_95d88 := by
  intro as g K h
  simp only [sp_J13_bitCount_95d88] at h
  split at h
  · exact ⟨Nat.le_of_ble_eq_true rfl, by simp, rfl, fun h => by cases h⟩
  · exact h.elim
set_option maxHeartbeats 4000000 in
set_option maxRecDepth 100000 in
theorem b_J13_bitCount_95d88 : sm_body lay NJ13_bitCount_95d88 2 0 (sm_cl []) sp_J13_bitCount_95d88 := by
  intro K J S hW as g hs
  have hn := n_J13_bitCount_95d88
  have hf := fd_all
  have ha := ar_all
  generalize NJ13_bitCount_95d88 = N at hn hW
  generalize lay = L at hf ha hW
  obtain ⟨hS, hR⟩ := hW
  simp only [sp_J13_bitCount_95d88] at hs
  split at hs
  case h_2 => exact hs.elim
  simp only [e_args, sm_pad, List.length_cons, List.length_nil, Nat.reduceAdd, Nat.reduceSub, List.replicate_succ, List.replicate_zero, List.cons_append, List.nil_append]
  rename_i x
  apply hR 60
  simp (maxSteps := 10000000) (disch := omega) only [hS, hn, sm_eqs, hf, ha, sm_b0, Int.reduceToNat, ↓reduceIte, Nat.reduceEqDiff, true_and, and_true, List.length_nil, List.length_cons, Nat.reduceAdd, Nat.reduceLeDiff, Nat.zero_le, false_implies, true_implies, not_true_eq_false, not_false_eq_true, implies_true, Nat.reduceSub, Nat.reduceMul, Nat.reduceDiv, reduceCtorEq, tn_clamp, nI_t, tn_nI, nI_add, pk_mul, rS_gS, rS_gA, rS_gL, rA_gS, rA_gA, rA_gL, rL_gS, rL_gA, rL_gL, and_self, and_false, false_and, if_true, if_false, true_or, or_true, or_false, false_or, sm_in, eqI, sI_s, Int32.toInt_zero, Int.natCast_zero, Int.natCast_one, Int.cast_ofNat_Int, Int.reduceEq, Int.reduceLT, Int.reduceLE, Int.reduceNeg, Int.reduceNe, ne_eq, n_up, g_up, e_cat, fr_A, fr_O, fr_P, fr_L]
  exact hs
theorem ok_J13_bitCount_95d88 (l : Launch) : sm_spok l lay sm_mt 1 227 sp_J13_bitCount_95d88 := Or.inr (Or.inr (Or.inr ⟨by decide, by decide, by
  rw [mt_227]
  exact sm_method (T := TJ13_) v_cok v_lok v_ka v_tok_J13 mok_J13_bitCount_95d88 rfl (by unfold sm_rk; simp) wf_J13_bitCount_95d88 (fun _ h => absurd h List.not_mem_nil) b_J13_bitCount_95d88⟩))
