/-! The reference: the list's classes are those of the set. -/
theorem mem_lst {f : Nat → Bool} {n x : Nat} : x ∈ lst f n ↔ x < n ∧ f x = true := by
  refine ⟨lst_lt f n x, fun h => ?_⟩
  obtain ⟨h1, h2⟩ := h
  induction n with
  | zero => omega
  | succ n ih =>
    simp only [lst]
    by_cases e : x = n
    · subst e; rw [if_pos h2]; simp
    · have := ih (by omega)
      split
      · simp [this]
      · exact this
theorem cls_eq (f : Nat → Bool) (a : Nat → Int) (d : Nat → Nat) : ∀ n, (∀ i, i < (lst f n).length → d i = (lst f n).getD i 0) → cnt (fun i => dc (∀ u, u < i → a (d i) ≠ a (d u))) (lst f n).length = cnt (fun t => dc (f t = true ∧ ∀ u, u < t → f u = true → a u ≠ a t)) n := by
  intro n
  induction n with
  | zero => intro _; rfl
  | succ n ih =>
    intro hd
    by_cases hf : f n = true
    · have hl : lst f (n + 1) = lst f n ++ [n] := by simp only [lst]; rw [if_pos hf]
      rw [hl] at hd ⊢
      rw [List.length_append] at hd ⊢
      have hd1 : ∀ i, i < (lst f n).length → d i = (lst f n).getD i 0 := fun i hi => by
        have := hd i (by omega)
        rw [this, List.getD_eq_getElem?_getD, List.getD_eq_getElem?_getD, List.getElem?_append_left hi]
      have hdn : d (lst f n).length = n := by
        have := hd (lst f n).length (by show _ < _ + 1; omega)
        rw [this, List.getD_eq_getElem?_getD, List.getElem?_append_right (by omega)]; simp
      have ih := ih hd1
      show cnt _ (lst f n).length + _ = cnt _ n + _
      rw [ih]
      congr 1
      have he : (∀ u, u < (lst f n).length → a (d (lst f n).length) ≠ a (d u)) ↔ (f n = true ∧ ∀ u, u < n → f u = true → a u ≠ a n) := by
        rw [hdn]
        constructor
        · intro h1
          refine ⟨hf, fun u hu hfu e => ?_⟩
          have hm : u ∈ lst f n := mem_lst.mpr ⟨hu, hfu⟩
          obtain ⟨i, hi, hx, _⟩ := lst_idx hm
          exact h1 i hi (by rw [hd1 i hi, hx, e])
        · intro h1 u hu e
          rw [hd1 u hu] at e
          have hm : (lst f n).getD u 0 ∈ lst f n := by
            rw [List.getD_eq_getElem?_getD, List.getElem?_eq_getElem hu]; exact List.getElem_mem _
          obtain ⟨h3, h4⟩ := mem_lst.mp hm
          exact h1.2 _ h3 h4 e.symm
      by_cases hx : (∀ u, u < (lst f n).length → a (d (lst f n).length) ≠ a (d u))
      · rw [if_pos (dc_t.mpr hx), if_pos (dc_t.mpr (he.mp hx))]
      · rw [if_neg (fun b => hx (dc_t.mp b)), if_neg (fun b => hx (he.mpr (dc_t.mp b)))]
    · have hl : lst f (n + 1) = lst f n := by simp only [lst]; rw [if_neg hf]
      rw [hl] at hd ⊢
      rw [ih hd]
      show _ = cnt _ n + _
      rw [if_neg (fun b => hf (dc_t.mp b).1)]
      rfl
theorem cls_ft {c g : sm_G} {r : Nat} (hn : nT c ≤ 60) (h1 : hol (rA g 78) (ftL c r)) (h2 : rS g 53 1033 = nI (ftL c r).length) : fdOk g ∧ ∀ q, clsF c g q = clsN c (ftS c r) q := by
  have hlen : (ftL c r).length ≤ 60 := by rw [ftL_len]; have := cnt_le (fun t => dc (ftC c r t)) (nT c); omega
  have hm : mN g = (ftL c r).length := by unfold mN; rw [h2, tn_nI (by omega)]
  have hx : ∀ i, i < (ftL c r).length → (ftL c r).getD i 0 < 60 := fun i hi => by
    have hm : (ftL c r).getD i 0 ∈ ftL c r := by
      rw [List.getD_eq_getElem?_getD, List.getElem?_eq_getElem hi]; exact List.getElem_mem _
    have := (mem_lst.mp hm).1
    omega
  have hd : ∀ i, i < (ftL c r).length → fd g i = (ftL c r).getD i 0 := fun i hi => by
    have := hx i hi
    unfold fd; rw [hol_F h1 hi, tn_nI (by omega)]
  refine ⟨⟨fun i hi => ?_, by omega, by rw [h2, hm]⟩, fun q => ?_⟩
  · rw [hm] at hi
    rw [hd i hi]
    exact ⟨hol_F h1 hi, hx i hi⟩
  · unfold clsF
    rw [hm]
    have h3 := cls_eq (fun t => dc (ftC c r t)) (fun t => (anC c 9 t q).toInt) (fd g) (nT c) hd
    refine h3.trans ?_
    have hb : ∀ t, bitL (ftS c r) t = true ↔ t < nT c ∧ ftC c r t := fun t => by
      unfold ftS
      rw [bit_sOf _ _ _ (by omega), Bool.and_eq_true, decide_eq_true_eq, dc_t]
    unfold clsN
    have h60 : (60 : Nat) = nT c + (60 - nT c) := by omega
    rw [h60, cnt_app, cnt_none (60 - nT c) (fun i hi => dc_f.mpr (fun h => by have := ((hb _).mp h.1).1; omega))]
    refine cnt_congr _ (fun t ht => ?_)
    have : (dc (ftC c r t) = true ∧ ∀ u, u < t → dc (ftC c r u) = true → (anC c 9 u q).toInt ≠ (anC c 9 t q).toInt) ↔ fcl c (ftS c r) q t := by
      unfold fcl
      rw [hb t]
      constructor
      · intro h
        exact ⟨⟨ht, dc_t.mp h.1⟩, fun u hu hbu => h.2 u hu (dc_t.mpr ((hb u).mp hbu).2)⟩
      · intro h
        exact ⟨dc_t.mpr h.1.2, fun u hu hbu => h.2 u hu ((hb u).mpr ⟨by omega, dc_t.mp hbu⟩)⟩
    by_cases hy : fcl c (ftS c r) q t
    · rw [dc_t.mpr hy]; exact dc_t.mpr (this.mpr hy)
    · rw [dc_f.mpr hy]; exact dc_f.mpr (fun b => hy (this.mp b))
def sp_X10_parts (c : sm_G) : sm_SP := fun as g K => match as with
  | [.ref p, .int r, .int q] => p = 53 ∧ CP c g ∧ (∀ h, mS g h → CP c h → (okR c r ∧ okQ c q → K (some (.int (nI (clsN c (ftS c (tn r)) (tn q))))) h) ∧ (¬ (okR c r ∧ okQ c q) → K (some (.int (sI 0))) h))
  | _ => False
theorem wf_X10_parts (c : sm_G) : sm_wf lay (yX10_parts, cX10_parts, 3, (some .int)) 3 false (sp_X10_parts c) := by
  intro as g K h
  simp only [sp_X10_parts] at h
  split at h
  · exact ⟨Nat.le_of_ble_eq_true rfl, by simp, rfl, fun _ => by obtain rfl := h.1; exact ⟨53, _, 10, [1, 1, 56, 57, 58, 59, 60, 61, 1, 1, 62, 63, 64, 65, 66, 67, 68, 69, 70, 71, 72, 73, 1, 74, 75, 76, 77, 1, 1, 78, 79, 1, 80, 1, 81, 1, 82, 83, 84, 85, 86, 1], TX10, 42, rfl, rfl, rfl⟩⟩
  · exact h.elim
set_option maxHeartbeats 4000000 in
set_option maxRecDepth 100000 in
theorem b_X10_parts (c : sm_G) : sm_body lay NX10_parts 3 0 (sm_cl [(169, sp_X10_isReport c), (163, sp_X10_isQuestion c), (201, sp_X10_findFitted c), (202, sp_X10_classes c)]) (sp_X10_parts c) := by
  intro K J S hW as g hs
  have hn := n_X10_parts
  have hf := fd_all
  have ha := ar_all
  generalize NX10_parts = N at hn hW
  generalize lay = L at hf ha hW
  obtain ⟨hS, hR⟩ := hW
  simp only [sp_X10_parts] at hs
  split at hs
  case h_2 => exact hs.elim
  simp only [e_args, sm_pad, List.length_cons, List.length_nil, Nat.reduceAdd, Nat.reduceSub, List.replicate_succ, List.replicate_zero, List.cons_append, List.nil_append]
  rename_i p r q
  obtain ⟨rfl, h, hs⟩ := hs
  have hn2 := CP_n h
  have fr := fun h9 => okR_60 (r := r) h.1.2.1.2.2.2.2.1 h9
  have fq := fun h9 => okQ_16 (q := q) h.1.1.1 h9
  obtain ⟨_, h2⟩ := hs (gS g 53 1000 (nI 0)) (mS_S (mS_rf g)) h
  apply hR 40
  simp (maxSteps := 10000000) (disch := omega) only [hS, hn, sm_eqs, hf, ha, sm_b0, Int.reduceToNat, ↓reduceIte, Nat.reduceEqDiff, true_and, and_true, List.length_nil, List.length_cons, Nat.reduceAdd, Nat.reduceLeDiff, Nat.zero_le, false_implies, true_implies, not_true_eq_false, not_false_eq_true, implies_true, Nat.reduceSub, Nat.reduceMul, Nat.reduceDiv, reduceCtorEq, tn_clamp, nI_t, tn_nI, nI_add, pk_mul, rS_gS, rS_gA, rS_gL, rA_gS, rA_gA, rA_gL, rL_gS, rL_gA, rL_gL, and_self, and_false, false_and, if_true, if_false, true_or, or_true, or_false, false_or, sm_in, eqI, sI_s, Int32.toInt_zero, Int.natCast_zero, Int.natCast_one, Int.cast_ofNat_Int, Int.reduceEq, Int.reduceLT, Int.reduceLE, Int.reduceNeg, Int.reduceNe, ne_eq, n_up, g_up, e_cat, fr_A, fr_O, fr_P, fr_L, sp_X10_isReport, sp_X10_isQuestion, sp_X10_findFitted, sp_X10_classes, h, cp_fr]
  clear hn hf ha hS hR
  refine ⟨fun a => ⟨fun b => ⟨fr a, fun F hF => ?_⟩, fun b => h2 (fun x => b x.2)⟩, fun a => h2 (fun x => a x.1)⟩
  obtain ⟨s1, s2⟩ := cls_ft (g := gS (gS (gA g 78 F) 53 1000 (nI 0)) 53 1033 (nI (ftL c (tn r)).length)) hn2.2.2.1 (r := tn r) hF rfl
  have hcp : CP c (gS (gS (gA g 78 F) 53 1000 (nI 0)) 53 1033 (nI (ftL c (tn r)).length)) := by simp only [cp_fr]; exact h
  refine ⟨fq b, s1, ?_⟩
  rw [s2]
  exact (hs _ (mS_S (mS_S (mS_A (mS_rf g) (by omega)))) hcp).1 ⟨a, b⟩
theorem ok_X10_parts (l : Launch) (c : sm_G) : sm_spok l lay sm_mt 6 203 (sp_X10_parts c) := Or.inr (Or.inr (Or.inr ⟨by decide, by decide, by
  rw [mt_203]
  exact sm_method (T := TX10_) v_cok v_lok v_ka v_tok_X10 mok_X10_parts rfl (by unfold sm_rk; simp) (wf_X10_parts c) (List.forall_mem_cons.mpr ⟨sm_spok_up (Nat.le_of_ble_eq_true rfl : 2 ≤ 5) (ok_X10_isReport l c), List.forall_mem_cons.mpr ⟨sm_spok_up (Nat.le_of_ble_eq_true rfl : 2 ≤ 5) (ok_X10_isQuestion l c), List.forall_mem_cons.mpr ⟨sm_spok_up (Nat.le_of_ble_eq_true rfl : 5 ≤ 5) (ok_X10_findFitted l c), List.forall_mem_cons.mpr ⟨sm_spok_up (Nat.le_of_ble_eq_true rfl : 2 ≤ 5) (ok_X10_classes l c), fun _ h => absurd h List.not_mem_nil⟩⟩⟩⟩) (b_X10_parts c)⟩))
def sp_X10_ask (c : sm_G) : sm_SP := fun as g K => match as with
  | [.ref p, .int r] => p = 53 ∧ CP c g ∧ (∀ h, mS g h → CP c h → (okR c r → K (some (.int (oI (mpq (clsN c (ftS c (tn r))) (nQ c)).1))) h) ∧ (¬ okR c r → K (some (.int (sI 0))) h))
  | _ => False
theorem wf_X10_ask (c : sm_G) : sm_wf lay (yX10_ask, cX10_ask, 6, (some .int)) 2 false (sp_X10_ask c) := by
  intro as g K h
  simp only [sp_X10_ask] at h
  split at h
  · exact ⟨Nat.le_of_ble_eq_true rfl, by simp, rfl, fun _ => by obtain rfl := h.1; exact ⟨53, _, 10, [1, 1, 56, 57, 58, 59, 60, 61, 1, 1, 62, 63, 64, 65, 66, 67, 68, 69, 70, 71, 72, 73, 1, 74, 75, 76, 77, 1, 1, 78, 79, 1, 80, 1, 81, 1, 82, 83, 84, 85, 86, 1], TX10, 42, rfl, rfl, rfl⟩⟩
  · exact h.elim
set_option maxHeartbeats 4000000 in
set_option maxRecDepth 100000 in
theorem b_X10_ask (c : sm_G) : sm_body lay NX10_ask 6 0 (sm_cl [(169, sp_X10_isReport c), (201, sp_X10_findFitted c), (202, sp_X10_classes c)]) (sp_X10_ask c) := by
  intro K J S hW as g hs
  have hn := n_X10_ask
  have hf := fd_all
  have ha := ar_all
  generalize NX10_ask = N at hn hW
  generalize lay = L at hf ha hW
  obtain ⟨hS, hR⟩ := hW
  simp only [sp_X10_ask] at hs
  split at hs
  case h_2 => exact hs.elim
  simp only [e_args, sm_pad, List.length_cons, List.length_nil, Nat.reduceAdd, Nat.reduceSub, List.replicate_succ, List.replicate_zero, List.cons_append, List.nil_append]
  rename_i p r
  obtain ⟨rfl, h, hs⟩ := hs
  have hn2 := CP_n h
  have fr := fun h9 => okR_60 (r := r) h.1.2.1.2.2.2.2.1 h9
  obtain ⟨_, h2⟩ := hs (gS g 53 1000 (nI 0)) (mS_S (mS_rf g)) h
  have loop : okR c r → ∀ F, hol F (ftL c (tn r)) → ∀ s, s = gS (gS (gA g 78 F) 53 1000 (nI 0)) 53 1033 (nI (ftL c (tn r)).length) → ∀ m q, m = nQ c - q → q ≤ nQ c → ∀ v5, J 27 [some (.ref 53), some (.int r), some (.int (oI (mpq (clsN c (ftS c (tn r))) q).1)), some (.int (nI (mpq (clsN c (ftS c (tn r))) q).2)), some (.int (nI q)), v5] [] s := by
    intro ho F hF s hse
    obtain ⟨s1, s2⟩ := cls_ft (g := s) hn2.2.2.1 (r := tn r) (by rw [hse]; exact hF) (by rw [hse]; rfl)
    have hcp : CP c s := by rw [hse]; simp only [cp_fr]; exact h
    have hs := (hs s (by rw [hse]; exact mS_S (mS_S (mS_A (mS_rf g) (by omega)))) hcp).1 ho
    have hq0 := hcp.2.1.1
    clear hse hF h h2 fr
    intro m
    induction m with
    | zero =>
      intro q hm hq v5
      obtain rfl : q = nQ c := by omega
      apply hR 60
      simp (maxSteps := 10000000) (disch := omega) only [hS, hn, sm_eqs, hf, ha, sm_b0, Int.reduceToNat, ↓reduceIte, Nat.reduceEqDiff, true_and, and_true, List.length_nil, List.length_cons, Nat.reduceAdd, Nat.reduceLeDiff, Nat.zero_le, false_implies, true_implies, not_true_eq_false, not_false_eq_true, implies_true, Nat.reduceSub, Nat.reduceMul, Nat.reduceDiv, reduceCtorEq, tn_clamp, nI_t, tn_nI, nI_add, pk_mul, rS_gS, rS_gA, rS_gL, rA_gS, rA_gA, rA_gL, rL_gS, rL_gA, rL_gL, and_self, and_false, false_and, if_true, if_false, true_or, or_true, or_false, false_or, sm_in, eqI, sI_s, Int32.toInt_zero, Int.natCast_zero, Int.natCast_one, Int.cast_ofNat_Int, Int.reduceEq, Int.reduceLT, Int.reduceLE, Int.reduceNeg, Int.reduceNe, ne_eq, n_up, g_up, e_cat, fr_A, fr_O, fr_P, fr_L, sp_X10_isReport, sp_X10_findFitted, sp_X10_classes, hq0]
      repeat' (first | (refine And.intro ?_ ?_) | (intro _))
      all_goals (first | with_reducible assumption | omega | (exfalso; omega))
    | succ m ih =>
      intro q hm hq v5
      have ih := ih (q + 1) (by omega) (by omega)
      have hc : clsN c (ftS c (tn r)) q ≤ 60 := cnt_le _ _
      have hb : ∀ n, (mpq (clsN c (ftS c (tn r))) n).2 ≤ 60 := by
        intro n
        induction n with
        | zero => exact Nat.le_of_ble_eq_true rfl
        | succ n ih => simp only [mpq]; split
                       · exact cnt_le _ _
                       · exact ih
      have hb2 := hb q
      have s2 := s2 q
      simp only [mpq] at ih
      clear hs
      by_cases hl : (mpq (clsN c (ftS c (tn r))) q).2 < clsN c (ftS c (tn r)) q
      · rw [if_pos hl] at ih
        (try dsimp only at ih)
        rw [show oI (some q) = nI q from rfl] at ih
        apply hR 60
        simp (maxSteps := 10000000) (disch := omega) only [hS, hn, sm_eqs, hf, ha, sm_b0, Int.reduceToNat, ↓reduceIte, Nat.reduceEqDiff, true_and, and_true, List.length_nil, List.length_cons, Nat.reduceAdd, Nat.reduceLeDiff, Nat.zero_le, false_implies, true_implies, not_true_eq_false, not_false_eq_true, implies_true, Nat.reduceSub, Nat.reduceMul, Nat.reduceDiv, reduceCtorEq, tn_clamp, nI_t, tn_nI, nI_add, pk_mul, rS_gS, rS_gA, rS_gL, rA_gS, rA_gA, rA_gL, rL_gS, rL_gA, rL_gL, and_self, and_false, false_and, if_true, if_false, true_or, or_true, or_false, false_or, sm_in, eqI, sI_s, Int32.toInt_zero, Int.natCast_zero, Int.natCast_one, Int.cast_ofNat_Int, Int.reduceEq, Int.reduceLT, Int.reduceLE, Int.reduceNeg, Int.reduceNe, ne_eq, n_up, g_up, e_cat, fr_A, fr_O, fr_P, fr_L, sp_X10_isReport, sp_X10_findFitted, sp_X10_classes, hq0, hl, hcp, s1, s2]
        clear hn hf ha hS hR
        have ih := ih (some (.int (nI (clsN c (ftS c (tn r)) q))))
        repeat' (first | (refine And.intro ?_ ?_) | (intro _))
        all_goals (first | with_reducible assumption | omega | (exfalso; omega))
      · rw [if_neg hl] at ih
        apply hR 60
        simp (maxSteps := 10000000) (disch := omega) only [hS, hn, sm_eqs, hf, ha, sm_b0, Int.reduceToNat, ↓reduceIte, Nat.reduceEqDiff, true_and, and_true, List.length_nil, List.length_cons, Nat.reduceAdd, Nat.reduceLeDiff, Nat.zero_le, false_implies, true_implies, not_true_eq_false, not_false_eq_true, implies_true, Nat.reduceSub, Nat.reduceMul, Nat.reduceDiv, reduceCtorEq, tn_clamp, nI_t, tn_nI, nI_add, pk_mul, rS_gS, rS_gA, rS_gL, rA_gS, rA_gA, rA_gL, rL_gS, rL_gA, rL_gL, and_self, and_false, false_and, if_true, if_false, true_or, or_true, or_false, false_or, sm_in, eqI, sI_s, Int32.toInt_zero, Int.natCast_zero, Int.natCast_one, Int.cast_ofNat_Int, Int.reduceEq, Int.reduceLT, Int.reduceLE, Int.reduceNeg, Int.reduceNe, ne_eq, n_up, g_up, e_cat, fr_A, fr_O, fr_P, fr_L, sp_X10_isReport, sp_X10_findFitted, sp_X10_classes, hq0, hl, hcp, s1, s2]
        clear hn hf ha hS hR
        have ih := ih (some (.int (nI (clsN c (ftS c (tn r)) q))))
        repeat' (first | (refine And.intro ?_ ?_) | (intro _))
        all_goals (first | with_reducible assumption | omega | (exfalso; omega))
  apply hR 40
  simp (maxSteps := 10000000) (disch := omega) only [hS, hn, sm_eqs, hf, ha, sm_b0, Int.reduceToNat, ↓reduceIte, Nat.reduceEqDiff, true_and, and_true, List.length_nil, List.length_cons, Nat.reduceAdd, Nat.reduceLeDiff, Nat.zero_le, false_implies, true_implies, not_true_eq_false, not_false_eq_true, implies_true, Nat.reduceSub, Nat.reduceMul, Nat.reduceDiv, reduceCtorEq, tn_clamp, nI_t, tn_nI, nI_add, pk_mul, rS_gS, rS_gA, rS_gL, rA_gS, rA_gA, rA_gL, rL_gS, rL_gA, rL_gL, and_self, and_false, false_and, if_true, if_false, true_or, or_true, or_false, false_or, sm_in, eqI, sI_s, Int32.toInt_zero, Int.natCast_zero, Int.natCast_one, Int.cast_ofNat_Int, Int.reduceEq, Int.reduceLT, Int.reduceLE, Int.reduceNeg, Int.reduceNe, ne_eq, n_up, g_up, e_cat, fr_A, fr_O, fr_P, fr_L, sp_X10_isReport, sp_X10_findFitted, sp_X10_classes, h, cp_fr]
  clear hn hf ha hS hR
  refine ⟨fun a => ⟨fr a, fun F hF => ?_⟩, fun a => h2 a⟩
  exact loop a F hF _ rfl _ 0 rfl (Nat.zero_le _) none
theorem ok_X10_ask (l : Launch) (c : sm_G) : sm_spok l lay sm_mt 6 204 (sp_X10_ask c) := Or.inr (Or.inr (Or.inr ⟨by decide, by decide, by
  rw [mt_204]
  exact sm_method (T := TX10_) v_cok v_lok v_ka v_tok_X10 mok_X10_ask rfl (by unfold sm_rk; simp) (wf_X10_ask c) (List.forall_mem_cons.mpr ⟨sm_spok_up (Nat.le_of_ble_eq_true rfl : 2 ≤ 5) (ok_X10_isReport l c), List.forall_mem_cons.mpr ⟨sm_spok_up (Nat.le_of_ble_eq_true rfl : 5 ≤ 5) (ok_X10_findFitted l c), List.forall_mem_cons.mpr ⟨sm_spok_up (Nat.le_of_ble_eq_true rfl : 2 ≤ 5) (ok_X10_classes l c), fun _ h => absurd h List.not_mem_nil⟩⟩⟩) (b_X10_ask c)⟩))
