/-! The reference: the class of one in a set of the fitted. -/
theorem bv_and32_1 (y : BitVec 32) : (y &&& 1#32 = 1#32) ↔ y.getLsbD 0 = true := by
  constructor
  · intro h
    have h2 := congrArg (fun z : BitVec 32 => z.getLsbD 0) h
    simpa using h2
  · intro h
    apply BitVec.eq_of_getLsbD_eq
    intro i hi
    cases i with
    | zero => rw [BitVec.getLsbD_and, h]; simp
    | succ i => simp [BitVec.getLsbD_one]
theorem bi_and1 {x : Int32} {k : Nat} (hk : k < 32) : ((x >>> (nI k &&& 31) &&& nI 1).toInt = ((1 : Nat) : Int)) = (bitI x k = true) := by
  apply propext
  rw [show ((1 : Nat) : Int) = (nI 1).toInt from rfl, Int32.toInt_inj, ← Int32.toBitVec_inj, Int32.toBitVec_and, Int32.toBitVec_shiftRight, bi_am k hk]
  rw [show (nI 1).toBitVec = 1#32 from rfl, bv_and32_1]
  have : (BitVec.ofNat 32 k).toNat = k := by simp; omega
  show (x.toBitVec.sshiftRight (BitVec.ofNat 32 k).toNat).getLsbD 0 = true ↔ bitI x k = true
  rw [this, BitVec.getLsbD_sshiftRight, if_pos (by omega)]
  simp only [bitI, Nat.add_zero, Nat.not_le, decide_false, Bool.not_false, Bool.true_and, Nat.reduceLeDiff, decide_eq_true_eq]
/-- in a set, with the same answer as one -/
def sam (c g : sm_G) (s : Int32) (o q j : Nat) : Prop := bitI s j = true ∧ (anC c 9 (fd g j) q).toInt = (anC c 9 (fd g o) q).toInt
def sp_X10_classOf (c : sm_G) : sm_SP := fun as g K => match as with
  | [.ref p, .int s, .int o, .int q] => p = 53 ∧ CP c g ∧ sm_in q 16 ∧ fdOk g ∧ mN g ≤ 12 ∧ sm_in o 12 ∧ tn o < mN g ∧ (∀ x, (∀ j, j < 32 → bitI x j = dc (j < mN g ∧ sam c g s (tn o) (tn q) j)) → K (some (.int x)) g)
  | _ => False
theorem wf_X10_classOf (c : sm_G) : sm_wf lay (yX10_classOf, cX10_classOf, 6, (some .int)) 4 false (sp_X10_classOf c) := by
  intro as g K h
  simp only [sp_X10_classOf] at h
  split at h
  · exact ⟨Nat.le_of_ble_eq_true rfl, by simp, rfl, fun _ => by obtain rfl := h.1; exact ⟨53, _, 10, [1, 1, 56, 57, 58, 59, 60, 61, 1, 1, 62, 63, 64, 65, 66, 67, 68, 69, 70, 71, 72, 73, 1, 74, 75, 76, 77, 1, 1, 78, 79, 1, 80, 1, 81, 1, 82, 83, 84, 85, 86, 1], TX10, 42, rfl, rfl, rfl⟩⟩
  · exact h.elim
set_option maxHeartbeats 4000000 in
set_option maxRecDepth 100000 in
theorem b_X10_classOf (c : sm_G) : sm_body lay NX10_classOf 6 0 (sm_cl [(177, sp_X10_knows)]) (sp_X10_classOf c) := by
  intro K J S hW as g hs
  have hn := n_X10_classOf
  have hf := fd_all
  have ha := ar_all
  generalize NX10_classOf = N at hn hW
  generalize lay = L at hf ha hW
  obtain ⟨hS, hR⟩ := hW
  simp only [sp_X10_classOf] at hs
  split at hs
  case h_2 => exact hs.elim
  simp only [e_args, sm_pad, List.length_cons, List.length_nil, Nat.reduceAdd, Nat.reduceSub, List.replicate_succ, List.replicate_zero, List.cons_append, List.nil_append]
  rename_i p s o q
  obtain ⟨rfl, h, hq, ⟨hf1, hf2, hf3⟩, h12, ho, ho2, hs⟩ := hs
  obtain ⟨q, hq2, rfl⟩ := sm_in_nI hq
  obtain ⟨o, ho3, rfl⟩ := sm_in_nI ho
  rw [tn_nI (by omega)] at ho2
  rw [tn_nI (by omega), tn_nI (by omega)] at hs
  have hk := h.2.2.1.2.2.1
  obtain ⟨fo1, fo2⟩ := hf1 o ho2
  have ko := hk (fd g o) q fo2 hq2
  have loop : ∀ m j, m = mN g - j → j ≤ mN g → ∀ x, (∀ i, i < 32 → bitI x i = dc (i < j ∧ sam c g s o q i)) → J 6 [some (.ref 53), some (.int s), some (.int (nI o)), some (.int (nI q)), some (.int x), some (.int (nI j))] [] g := by
    intro m
    induction m with
    | zero =>
      intro j hm hj x hx
      obtain rfl : j = mN g := by omega
      have hs := hs x hx
      apply hR 60
      simp (maxSteps := 10000000) (disch := omega) only [hS, hn, sm_eqs, hf, ha, sm_b0, Int.reduceToNat, ↓reduceIte, Nat.reduceEqDiff, true_and, and_true, List.length_nil, List.length_cons, Nat.reduceAdd, Nat.reduceLeDiff, Nat.zero_le, false_implies, true_implies, not_true_eq_false, not_false_eq_true, implies_true, Nat.reduceSub, Nat.reduceMul, Nat.reduceDiv, reduceCtorEq, tn_clamp, nI_t, tn_nI, nI_add, pk_mul, rS_gS, rS_gA, rS_gL, rA_gS, rA_gA, rA_gL, rL_gS, rL_gA, rL_gL, and_self, and_false, false_and, if_true, if_false, true_or, or_true, or_false, false_or, sm_in, eqI, sI_s, Int32.toInt_zero, Int.natCast_zero, Int.natCast_one, Int.cast_ofNat_Int, Int.reduceEq, Int.reduceLT, Int.reduceLE, Int.reduceNeg, Int.reduceNe, ne_eq, n_up, g_up, e_cat, fr_A, fr_O, fr_P, fr_L, sp_X10_knows, hf3]
      repeat' (first | (refine And.intro ?_ ?_) | (intro _))
      all_goals (first | with_reducible assumption | omega | (exfalso; omega))
    | succ m ih =>
      intro j hm hj x hx
      obtain ⟨fj1, fj2⟩ := hf1 j (by omega)
      have kj := hk (fd g j) q fj2 hq2
      have e1 : sam c g s o q j → J 6 [some (.ref 53), some (.int s), some (.int (nI o)), some (.int (nI q)), some (.int (x ||| nI 1 <<< (nI j &&& 31))), some (.int (nI (j + 1)))] [] g := fun a => ih (j + 1) (by omega) (by omega) _ (fun i hi => by
        rw [bi_or (by omega), hx i hi]
        by_cases e : i = j
        · subst e
          have e9 : dc (i < i + 1 ∧ sam c g s o q i) = true := dc_t.mpr ⟨by omega, a⟩
          rw [e9]; simp
        · rw [show decide (i = j) = false by simp [e], Bool.or_false]
          by_cases b : i < j ∧ sam c g s o q i
          · rw [dc_t.mpr b, dc_t.mpr ⟨by omega, b.2⟩]
          · rw [dc_f.mpr b, dc_f.mpr (fun d => b ⟨by omega, d.2⟩)])
      have e0 : ¬ sam c g s o q j → J 6 [some (.ref 53), some (.int s), some (.int (nI o)), some (.int (nI q)), some (.int x), some (.int (nI (j + 1)))] [] g := fun a => ih (j + 1) (by omega) (by omega) _ (fun i hi => by
        rw [hx i hi]
        by_cases b : i < j ∧ sam c g s o q i
        · rw [dc_t.mpr b, dc_t.mpr ⟨by omega, b.2⟩]
        · rw [dc_f.mpr b, dc_f.mpr (fun d => by
            by_cases e : i = j
            · subst e; exact a d.2
            · exact b ⟨by omega, d.2⟩)])
      clear ih hs hx
      unfold sam at e1 e0
      apply hR 60
      simp (maxSteps := 10000000) (disch := omega) only [hS, hn, sm_eqs, hf, ha, sm_b0, Int.reduceToNat, ↓reduceIte, Nat.reduceEqDiff, true_and, and_true, List.length_nil, List.length_cons, Nat.reduceAdd, Nat.reduceLeDiff, Nat.zero_le, false_implies, true_implies, not_true_eq_false, not_false_eq_true, implies_true, Nat.reduceSub, Nat.reduceMul, Nat.reduceDiv, reduceCtorEq, tn_clamp, nI_t, tn_nI, nI_add, pk_mul, rS_gS, rS_gA, rS_gL, rA_gS, rA_gA, rA_gL, rL_gS, rL_gA, rL_gL, and_self, and_false, false_and, if_true, if_false, true_or, or_true, or_false, false_or, sm_in, eqI, sI_s, Int32.toInt_zero, Int.natCast_zero, Int.natCast_one, Int.cast_ofNat_Int, Int.reduceEq, Int.reduceLT, Int.reduceLE, Int.reduceNeg, Int.reduceNe, ne_eq, n_up, g_up, e_cat, fr_A, fr_O, fr_P, fr_L, sp_X10_knows, hf3, fj1, kj, fo1, ko]
      clear hn hf ha hS hR
      have hb : ((s >>> (nI j &&& 31) &&& nI 1).toInt = 1) = (bitI s j = true) := bi_and1 (by omega)
      rw [hb]
      exact ⟨fun _ => ⟨fun a => ⟨⟨by omega, by omega⟩, ⟨by omega, by omega⟩, ⟨by omega, by omega⟩, ⟨by omega, by omega⟩, ⟨by omega, by omega⟩, ⟨by omega, by omega⟩, fun b => e1 ⟨a, b⟩, fun b => e0 (fun d => b d.2)⟩, fun a => e0 (fun d => a d.1)⟩, fun a => absurd a (by omega)⟩
  have h0 := loop _ 0 rfl (Nat.zero_le _) (nI 0) (fun i _ => by rw [bi_0]; exact (dc_f.mpr (fun b => by omega)).symm)
  clear hs loop
  apply hR 40
  simp (maxSteps := 10000000) (disch := omega) only [hS, hn, sm_eqs, hf, ha, sm_b0, Int.reduceToNat, ↓reduceIte, Nat.reduceEqDiff, true_and, and_true, List.length_nil, List.length_cons, Nat.reduceAdd, Nat.reduceLeDiff, Nat.zero_le, false_implies, true_implies, not_true_eq_false, not_false_eq_true, implies_true, Nat.reduceSub, Nat.reduceMul, Nat.reduceDiv, reduceCtorEq, tn_clamp, nI_t, tn_nI, nI_add, pk_mul, rS_gS, rS_gA, rS_gL, rA_gS, rA_gA, rA_gL, rL_gS, rL_gA, rL_gL, and_self, and_false, false_and, if_true, if_false, true_or, or_true, or_false, false_or, sm_in, eqI, sI_s, Int32.toInt_zero, Int.natCast_zero, Int.natCast_one, Int.cast_ofNat_Int, Int.reduceEq, Int.reduceLT, Int.reduceLE, Int.reduceNeg, Int.reduceNe, ne_eq, n_up, g_up, e_cat, fr_A, fr_O, fr_P, fr_L, sp_X10_knows]
  exact h0
theorem ok_X10_classOf (l : Launch) (c : sm_G) : sm_spok l lay sm_mt 2 205 (sp_X10_classOf c) := Or.inr (Or.inr (Or.inr ⟨by decide, by decide, by
  rw [mt_205]
  exact sm_method (T := TX10_) v_cok v_lok v_ka v_tok_X10 mok_X10_classOf rfl (by unfold sm_rk; simp) (wf_X10_classOf c) (List.forall_mem_cons.mpr ⟨sm_spok_up (Nat.le_of_ble_eq_true rfl : 1 ≤ 1) (ok_X10_knows l), fun _ h => absurd h List.not_mem_nil⟩) (b_X10_classOf c)⟩))
