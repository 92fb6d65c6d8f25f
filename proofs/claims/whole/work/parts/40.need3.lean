/-! Asking: what is needed for a set of things. -/
def sp_X0_neededFor : sm_SP := fun as g K => match as with
  | [.ref p, .long s] => p = 46 ∧ zQ g ∧ wL g 9 ∧ cnt (bitL s) 60 ≤ 12 ∧ (∀ (D : Nat) (M cl fd : Nat → Int32) (k : Nat), D ≤ 12 → k ≤ 12 → isNd (fun t q => (anC g 9 t q).toInt) 16 k (fun t => t < 60 ∧ bitL s t = true) → K (some (.int (nI k))) (gS (gA (gA (gA g 47 M) 48 cl) 49 fd) 46 5 (nI D)))
  | _ => False
theorem wf_X0_neededFor : sm_wf lay (yX0_neededFor, cX0_neededFor, 5, (some .int)) 2 false sp_X0_neededFor := by
  intro as g K h
  simp only [sp_X0_neededFor] at h
  split at h
  · exact ⟨Nat.le_of_ble_eq_true rfl, by simp, rfl, fun _ => by obtain rfl := h.1; exact ⟨46, _, 0, [3, 11, 49, 50, 51, 1], TX0, 6, rfl, rfl, rfl⟩⟩
  · exact h.elim
set_option maxHeartbeats 4000000 in
set_option maxRecDepth 100000 in
theorem b_X0_neededFor : sm_body lay NX0_neededFor 5 0 (sm_cl [(7, sp_X0_listDistinct), (9, sp_X0_classOf), (10, sp_X0_search 12)]) sp_X0_neededFor := by
  intro K J S hW as g hs
  have hn := n_X0_neededFor
  have hf := fd_all
  have ha := ar_all
  generalize NX0_neededFor = N at hn hW
  generalize lay = L at hf ha hW
  obtain ⟨hS, hR⟩ := hW
  simp only [sp_X0_neededFor] at hs
  split at hs
  case h_2 => exact hs.elim
  simp only [e_args, sm_pad, List.length_cons, List.length_nil, Nat.reduceAdd, Nat.reduceSub, List.replicate_succ, List.replicate_zero, List.cons_append, List.nil_append]
  rename_i p s
  obtain ⟨rfl, z, wl, hc, hs⟩ := hs
  have z2 := z.2
  have main : ∀ (D : Nat) (e : Nat → Nat) (M : Nat → Int32), D ≤ 12 → dst g s D e 60 → (∀ j, j < D → M j = nI (e j)) → J 7 [some (.ref 46), some (.long s), none, some (.int (nI 0)), none] [] (gS (gA g 47 M) 46 5 (nI D)) := by
    intro D e M hD hdst hM
    have he60 : ∀ j, j < D → e j < 60 := fun j hj => (hdst.1 j hj).2
    obtain ⟨W, hW⟩ : ∃ W, W = 2 ^ D := ⟨_, rfl⟩
    have hW1 : 1 ≤ W ∧ W ≤ 4096 := by
      have h1 : 2 ^ D ≤ 2 ^ 12 := Nat.pow_le_pow_right (by omega) hD
      have h2 : 1 ≤ 2 ^ D := Nat.one_le_pow _ _ (by omega)
      omega
    have hsh : nI 1 <<< (nI D &&& 31) = nI W := by rw [hW]; exact bi_shl D hD
    have hal : ∀ t u, t < 60 → u < 60 → alk g t u → ∀ q, q < 16 → (anC g 9 t q).toInt = (anC g 9 u q).toInt := fun t u ht hu h q hq => by
      by_cases hqn : q < nQ g
      · exact h q hqn
      · rw [an_hi wl ht (by omega), an_hi wl hu (by omega)]
    have hdis : dis D (fun j q => (anC g 9 (e j) q).toInt) := fun x y hx hy h => by
      rcases Nat.lt_trichotomy x y with h1 | h1 | h1
      · exact absurd (fun q hq => h q (by omega)) (hdst.2.1 x y h1 hy)
      · exact h1
      · exact absurd (fun q hq => (h q (by omega)).symm) (hdst.2.1 y x h1 hx)
    have fin : ∀ cl fd k, k ≤ 12 → isNd (fun j q => (anC g 9 (e j) q).toInt) 16 k (sM (nI (W - 1))) → K (some (.int (nI k))) (gS (gA (gA (gA g 47 M) 48 cl) 49 fd) 46 5 (nI D)) := fun cl fd k hk hn9 => by
      have hch : ∀ t, ∃ j, t < 60 → bitL s t = true → j < D ∧ alk g (e j) t := fun t => by
        by_cases h1 : t < 60 ∧ bitL s t = true
        · obtain ⟨j, hj, hj2⟩ := hdst.2.2 t h1.1 h1.2
          exact ⟨j, fun _ _ => ⟨hj, hj2⟩⟩
        · exact ⟨0, fun a b => absurd ⟨a, b⟩ h1⟩
      obtain ⟨f, hf2⟩ := Classical.axiomOfChoice hch
      refine hs D M cl fd k hD hk (isNd_rep f e (fun t ht => ?_) (fun j hj => ?_) hn9)
      · obtain ⟨h1, h2⟩ := hf2 t ht.1 ht.2
        refine ⟨?_, fun q hq => (hal _ _ (he60 _ h1) ht.1 h2 q hq).symm⟩
        show bitI (nI (W - 1)) (f t) = true
        rw [hW, bi_full hD, decide_eq_true_eq]; exact h1
      · have h1 : j < D := by
          have : bitI (nI (W - 1)) j = true := hj
          rw [hW, bi_full hD, decide_eq_true_eq] at this; exact this
        exact ⟨⟨he60 j h1, (hdst.1 j h1).1⟩, fun _ _ => rfl⟩
    have l3 : ∀ cl, (∀ q i, q < 16 → i < D → ∀ j, bitI (cl (q * 12 + i)) j = true ↔ (j < D ∧ (anC g 9 (e j) q).toInt = (anC g 9 (e i) q).toInt)) → ∀ m i, m = W - i → i ≤ W → ∀ fd, (∀ a, a < i → fd a = nI 0) →
        J 66 [some (.ref 46), some (.long s), none, some (.int (nI W)), some (.int (nI i))] [] (gS (gA (gA (gA g 47 M) 48 cl) 49 fd) 46 5 (nI D)) := by
      intro cl hcl m
      induction m with
      | zero =>
        intro i hm hi fd hfd
        obtain rfl : i = W := by omega
        have fin := fin cl
        have hct : cT (gS (gA (gA (gA g 47 M) 48 cl) 49 fd) 46 5 (nI D)) D (fun j q => (anC g 9 (e j) q).toInt) := hcl
        clear hs
        apply hR 60
        simp (maxSteps := 10000000) (disch := omega) only [hS, hn, sm_eqs, hf, ha, sm_b0, Int.reduceToNat, ↓reduceIte, Nat.reduceEqDiff, true_and, and_true, List.length_nil, List.length_cons, Nat.reduceAdd, Nat.reduceLeDiff, Nat.zero_le, false_implies, true_implies, not_true_eq_false, not_false_eq_true, implies_true, Nat.reduceSub, Nat.reduceMul, Nat.reduceDiv, reduceCtorEq, tn_clamp, nI_t, tn_nI, nI_add, pk_mul, rS_gS, rS_gA, rS_gL, rA_gS, rA_gA, rA_gL, rL_gS, rL_gA, rL_gL, and_self, and_false, false_and, if_true, if_false, true_or, or_true, or_false, false_or, sm_in, eqI, sI_s, Int32.toInt_zero, Int.natCast_zero, Int.natCast_one, Int.cast_ofNat_Int, Int.reduceEq, Int.reduceLT, Int.reduceLE, Int.reduceNeg, Int.reduceNe, ne_eq, n_up, g_up, e_cat, fr_A, fr_O, fr_P, fr_L, sp_X0_listDistinct, sp_X0_classOf, sp_X0_search]
        clear hn hf ha hS hR
        rw [pk_sub (show 1 ≤ i by omega)]
        have hbits : ∀ j, bitI (nI (i - 1)) j = true → j < D := fun j hj => by
          rw [hW, bi_full hD, decide_eq_true_eq] at hj; exact hj
        exact ⟨fun h => absurd h (by omega), fun _ => ⟨D, _, 0, hD, (nI_t (by omega)).symm, hct, hdis, hbits, rfl, Nat.le_refl _, cnt_bound 32 (fun j _ h => by have := hbits j (dc_t.mp h); omega), fun a ha9 => Or.inl (hfd a (by omega)), fun fd2 k _ k12 hk => fin fd2 k k12 hk⟩⟩
      | succ m ih =>
        intro i hm hi fd hfd
        have ih := ih (i + 1) (by omega) (by omega) (upd fd i (nI 0)) (fun a ha9 => by
          by_cases e2 : a = i
          · rw [e2, pk_us]
          · rw [pk_un e2]; exact hfd a (by omega))
        clear hs fin
        apply hR 60
        simp (maxSteps := 10000000) (disch := omega) only [hS, hn, sm_eqs, hf, ha, sm_b0, Int.reduceToNat, ↓reduceIte, Nat.reduceEqDiff, true_and, and_true, List.length_nil, List.length_cons, Nat.reduceAdd, Nat.reduceLeDiff, Nat.zero_le, false_implies, true_implies, not_true_eq_false, not_false_eq_true, implies_true, Nat.reduceSub, Nat.reduceMul, Nat.reduceDiv, reduceCtorEq, tn_clamp, nI_t, tn_nI, nI_add, pk_mul, rS_gS, rS_gA, rS_gL, rA_gS, rA_gA, rA_gL, rL_gS, rL_gA, rL_gL, and_self, and_false, false_and, if_true, if_false, true_or, or_true, or_false, false_or, sm_in, eqI, sI_s, Int32.toInt_zero, Int.natCast_zero, Int.natCast_one, Int.cast_ofNat_Int, Int.reduceEq, Int.reduceLT, Int.reduceLE, Int.reduceNeg, Int.reduceNe, ne_eq, n_up, g_up, e_cat, fr_A, fr_O, fr_P, fr_L, sp_X0_listDistinct, sp_X0_classOf, sp_X0_search]
        clear hn hf ha hS hR
        repeat' (first | (refine And.intro ?_ ?_) | (intro _))
        all_goals (first | with_reducible assumption | omega | (exfalso; omega))
    have l1 : ∀ m q, m = 16 - q → q ≤ 16 → ∀ cl, (∀ b i, b < q → i < D → ∀ j, bitI (cl (b * 12 + i)) j = true ↔ (j < D ∧ (anC g 9 (e j) b).toInt = (anC g 9 (e i) b).toInt)) → ∀ v4, J 7 [some (.ref 46), some (.long s), none, some (.int (nI q)), v4] [] (gS (gA (gA g 47 M) 48 cl) 46 5 (nI D)) := by
      intro m
      induction m with
      | zero =>
        intro q hm hq cl hcl v4
        obtain rfl : q = 16 := by omega
        have h0 := l3 cl hcl _ 0 rfl (Nat.zero_le _) (rA g 49) (fun a h => by omega)
        rw [show rA g 49 = rA (gA (gA g 47 M) 48 cl) 49 from rfl, gA_self] at h0
        clear hs fin l3
        apply hR 60
        simp (maxSteps := 10000000) (disch := omega) only [hS, hn, sm_eqs, hf, ha, sm_b0, Int.reduceToNat, ↓reduceIte, Nat.reduceEqDiff, true_and, and_true, List.length_nil, List.length_cons, Nat.reduceAdd, Nat.reduceLeDiff, Nat.zero_le, false_implies, true_implies, not_true_eq_false, not_false_eq_true, implies_true, Nat.reduceSub, Nat.reduceMul, Nat.reduceDiv, reduceCtorEq, tn_clamp, nI_t, tn_nI, nI_add, pk_mul, rS_gS, rS_gA, rS_gL, rA_gS, rA_gA, rA_gL, rL_gS, rL_gA, rL_gL, and_self, and_false, false_and, if_true, if_false, true_or, or_true, or_false, false_or, sm_in, eqI, sI_s, Int32.toInt_zero, Int.natCast_zero, Int.natCast_one, Int.cast_ofNat_Int, Int.reduceEq, Int.reduceLT, Int.reduceLE, Int.reduceNeg, Int.reduceNe, ne_eq, n_up, g_up, e_cat, fr_A, fr_O, fr_P, fr_L, sp_X0_listDistinct, sp_X0_classOf, sp_X0_search, hsh]
        clear hn hf ha hS hR
        repeat' (first | (refine And.intro ?_ ?_) | (intro _))
        all_goals (first | with_reducible assumption | omega | (exfalso; omega))
      | succ m ih =>
        intro q hm hq cl hcl v4
        have l2 : ∀ m2 i, m2 = D - i → i ≤ D → ∀ cl, (∀ b a, (b < q ∧ a < D ∨ b = q ∧ a < i) → ∀ j, bitI (cl (b * 12 + a)) j = true ↔ (j < D ∧ (anC g 9 (e j) b).toInt = (anC g 9 (e a) b).toInt)) → J 16 [some (.ref 46), some (.long s), none, some (.int (nI q)), some (.int (nI i))] [] (gS (gA (gA g 47 M) 48 cl) 46 5 (nI D)) := by
          intro m2
          induction m2 with
          | zero =>
            intro i hm2 hi cl hcl
            obtain rfl : i = D := by omega
            have ih := ih (q + 1) (by omega) (by omega) cl (fun b a hb ha9 => hcl b a (by omega)) (some (.int (nI i)))
            clear hs fin l3
            apply hR 60
            simp (maxSteps := 10000000) (disch := omega) only [hS, hn, sm_eqs, hf, ha, sm_b0, Int.reduceToNat, ↓reduceIte, Nat.reduceEqDiff, true_and, and_true, List.length_nil, List.length_cons, Nat.reduceAdd, Nat.reduceLeDiff, Nat.zero_le, false_implies, true_implies, not_true_eq_false, not_false_eq_true, implies_true, Nat.reduceSub, Nat.reduceMul, Nat.reduceDiv, reduceCtorEq, tn_clamp, nI_t, tn_nI, nI_add, pk_mul, rS_gS, rS_gA, rS_gL, rA_gS, rA_gA, rA_gL, rL_gS, rL_gA, rL_gL, and_self, and_false, false_and, if_true, if_false, true_or, or_true, or_false, false_or, sm_in, eqI, sI_s, Int32.toInt_zero, Int.natCast_zero, Int.natCast_one, Int.cast_ofNat_Int, Int.reduceEq, Int.reduceLT, Int.reduceLE, Int.reduceNeg, Int.reduceNe, ne_eq, n_up, g_up, e_cat, fr_A, fr_O, fr_P, fr_L, sp_X0_listDistinct, sp_X0_classOf, sp_X0_search]
            clear hn hf ha hS hR
            repeat' (first | (refine And.intro ?_ ?_) | (intro _))
            all_goals (first | with_reducible assumption | omega | (exfalso; omega))
          | succ m2 ih2 =>
            intro i hm2 hi cl hcl
            have ih2 := fun c (hc : ∀ j, bitI c j = true ↔ (j < D ∧ (anC g 9 (e j) q).toInt = (anC g 9 (e i) q).toInt)) => ih2 (i + 1) (by omega) (by omega) (upd cl (q * 12 + i) c) (fun b a hba j => by
              by_cases e2 : b = q ∧ a = i
              · obtain ⟨rfl, rfl⟩ := e2; rw [pk_us]; exact hc j
              · rw [pk_un (by omega)]; exact hcl b a (by omega) j)
            clear hs fin l3 ih
            apply hR 60
            simp (maxSteps := 10000000) (disch := omega) only [hS, hn, sm_eqs, hf, ha, sm_b0, Int.reduceToNat, ↓reduceIte, Nat.reduceEqDiff, true_and, and_true, List.length_nil, List.length_cons, Nat.reduceAdd, Nat.reduceLeDiff, Nat.zero_le, false_implies, true_implies, not_true_eq_false, not_false_eq_true, implies_true, Nat.reduceSub, Nat.reduceMul, Nat.reduceDiv, reduceCtorEq, tn_clamp, nI_t, tn_nI, nI_add, pk_mul, rS_gS, rS_gA, rS_gL, rA_gS, rA_gA, rA_gL, rL_gS, rL_gA, rL_gL, and_self, and_false, false_and, if_true, if_false, true_or, or_true, or_false, false_or, sm_in, eqI, sI_s, Int32.toInt_zero, Int.natCast_zero, Int.natCast_one, Int.cast_ofNat_Int, Int.reduceEq, Int.reduceLT, Int.reduceLE, Int.reduceNeg, Int.reduceNe, ne_eq, n_up, g_up, e_cat, fr_A, fr_O, fr_P, fr_L, sp_X0_listDistinct, sp_X0_classOf, sp_X0_search, dI, fr_S0 oth_all.2.2.1]
            clear hn hf ha hS hR
            exact ⟨fun _ => ⟨D, e, i, q, ⟨hD, (nI_t (by omega)).symm, fun j hj => ⟨by rw [hM j hj], he60 j hj⟩⟩, (nI_t (by omega)).symm, by omega, (nI_t (by omega)).symm, by omega, fun c hc => ⟨by omega, ih2 c hc⟩⟩, fun h => absurd h (by omega)⟩
        have h0 := l2 _ 0 rfl (Nat.zero_le _) cl (fun b a hba => hcl b a (by omega) (by omega))
        clear hs fin l3 l2 ih
        apply hR 60
        simp (maxSteps := 10000000) (disch := omega) only [hS, hn, sm_eqs, hf, ha, sm_b0, Int.reduceToNat, ↓reduceIte, Nat.reduceEqDiff, true_and, and_true, List.length_nil, List.length_cons, Nat.reduceAdd, Nat.reduceLeDiff, Nat.zero_le, false_implies, true_implies, not_true_eq_false, not_false_eq_true, implies_true, Nat.reduceSub, Nat.reduceMul, Nat.reduceDiv, reduceCtorEq, tn_clamp, nI_t, tn_nI, nI_add, pk_mul, rS_gS, rS_gA, rS_gL, rA_gS, rA_gA, rA_gL, rL_gS, rL_gA, rL_gL, and_self, and_false, false_and, if_true, if_false, true_or, or_true, or_false, false_or, sm_in, eqI, sI_s, Int32.toInt_zero, Int.natCast_zero, Int.natCast_one, Int.cast_ofNat_Int, Int.reduceEq, Int.reduceLT, Int.reduceLE, Int.reduceNeg, Int.reduceNe, ne_eq, n_up, g_up, e_cat, fr_A, fr_O, fr_P, fr_L, sp_X0_listDistinct, sp_X0_classOf, sp_X0_search]
        clear hn hf ha hS hR
        repeat' (first | (refine And.intro ?_ ?_) | (intro _))
        all_goals (first | with_reducible assumption | omega | (exfalso; omega))
    have h0 := l1 _ 0 rfl (Nat.zero_le _) (rA g 48) (fun b i h => by omega) none
    rw [show rA g 48 = rA (gA g 47 M) 48 from rfl, gA_self] at h0
    exact h0
  clear hs
  apply hR 40
  simp (maxSteps := 10000000) (disch := omega) only [hS, hn, sm_eqs, hf, ha, sm_b0, Int.reduceToNat, ↓reduceIte, Nat.reduceEqDiff, true_and, and_true, List.length_nil, List.length_cons, Nat.reduceAdd, Nat.reduceLeDiff, Nat.zero_le, false_implies, true_implies, not_true_eq_false, not_false_eq_true, implies_true, Nat.reduceSub, Nat.reduceMul, Nat.reduceDiv, reduceCtorEq, tn_clamp, nI_t, tn_nI, nI_add, pk_mul, rS_gS, rS_gA, rS_gL, rA_gS, rA_gA, rA_gL, rL_gS, rL_gA, rL_gL, and_self, and_false, false_and, if_true, if_false, true_or, or_true, or_false, false_or, sm_in, eqI, sI_s, Int32.toInt_zero, Int.natCast_zero, Int.natCast_one, Int.cast_ofNat_Int, Int.reduceEq, Int.reduceLT, Int.reduceLE, Int.reduceNeg, Int.reduceNe, ne_eq, n_up, g_up, e_cat, fr_A, fr_O, fr_P, fr_L, sp_X0_listDistinct, sp_X0_classOf, sp_X0_search, z]
  exact ⟨hc, fun D e M h1 h2 h3 => main D e M h1 h2 (fun j hj => Int32.toInt_inj.mp (h3 j hj))⟩
theorem ok_X0_neededFor (l : Launch) : sm_spok l lay sm_mt 28 6 sp_X0_neededFor := Or.inr (Or.inr (Or.inr ⟨by decide, by decide, by
  rw [mt_6]
  exact sm_method (T := TX0_) v_cok v_lok v_ka v_tok_X0 mok_X0_neededFor rfl (by unfold sm_rk; simp) wf_X0_neededFor (List.forall_mem_cons.mpr ⟨sm_spok_up (Nat.le_of_ble_eq_true rfl : 5 ≤ 27) (ok_X0_listDistinct l), List.forall_mem_cons.mpr ⟨sm_spok_up (Nat.le_of_ble_eq_true rfl : 3 ≤ 27) (ok_X0_classOf l), List.forall_mem_cons.mpr ⟨sm_spok_up (Nat.le_of_ble_eq_true rfl : 27 ≤ 27) (ok_X0_search l), fun _ h => absurd h List.not_mem_nil⟩⟩⟩) b_X0_neededFor⟩))
