/-! A free column is reached; holders are handed on; all rows. -/
theorem hP_first {C R k : Nat} {ct rp cp sl : Nat → Int64} {cf rc : Nat → Int32} {h : Nat → Nat} (h0 : h 0 = k + 1) (hs : ∀ c, c ≤ C + R → (sl c).toInt = 4611686018427387904) (hr : ∀ c, c ≤ C + R → rc c = nI 0) : hP C R (k + 1) 0 ct rp cp sl cf rc h (fun _ => 0) :=
  ⟨h0, rfl, fun _ _ => Nat.zero_le _, fun t u _ _ _ => by omega, fun c hc => Or.inr ⟨hr c hc, fun t ht => by omega⟩, fun t _ _ => by omega, fun t _ _ => by omega, fun h => by omega, fun _ => hs⟩
def sp_X1_reachFree : sm_SP := fun as g K => match as with
  | [.ref p] => p = 34 ∧ ∃ (C R k : Nat) (h : Nat → Nat), C ≤ 20 ∧ R ≤ 10 ∧ k < R ∧ rS g 34 110 = nI (C + R) ∧ rS g 34 108 = nI R ∧ (∀ c, c ≤ C + R → rA g 41 c = nI (h c)) ∧ h 0 = k + 1 ∧ hA C R (rL g 35) ∧ hM C R k h ∧ hF C R k (rL g 35) (rL g 37) (rL g 38) h ∧
      (∀ n o rp cp sl cf rc, hP C R (k + 1) n (rL g 35) rp cp sl cf rc h o → hF C R (if n = 0 then k else k + 1) (rL g 35) rp cp h → h (o n) = 0 → K (some (.int (nI (o n)))) (gL (gL (gL (gA (gA g 40 cf) 42 rc) 37 rp) 38 cp) 39 sl))
  | _ => False
theorem wf_X1_reachFree : sm_wf lay (yX1_reachFree, cX1_reachFree, 3, (some .int)) 1 false sp_X1_reachFree := by
  intro as g K h
  simp only [sp_X1_reachFree] at h
  split at h
  · exact ⟨Nat.le_of_ble_eq_true rfl, by simp, rfl, fun _ => by obtain rfl := h.1; exact ⟨34, _, 1, [37, 38, 39, 40, 41, 42, 43, 44, 1, 1, 1], TX1, 11, rfl, rfl, rfl⟩⟩
  · exact h.elim
set_option maxHeartbeats 4000000 in
set_option maxRecDepth 100000 in
theorem b_X1_reachFree : sm_body lay NX1_reachFree 3 0 (sm_cl [(19, sp_X1_holderOf), (20, sp_X1_lookFrom), (21, sp_X1_nearest), (22, sp_X1_changePrices)]) sp_X1_reachFree := by
  intro K J S hW as g hs
  have hn := n_X1_reachFree
  have hf := fd_all
  have ha := ar_all
  generalize NX1_reachFree = N at hn hW
  generalize lay = L at hf ha hW
  obtain ⟨hS, hR⟩ := hW
  simp only [sp_X1_reachFree] at hs
  split at hs
  case h_2 => exact hs.elim
  simp only [e_args, sm_pad, List.length_cons, List.length_nil, Nat.reduceAdd, Nat.reduceSub, List.replicate_succ, List.replicate_zero, List.cons_append, List.nil_append]
  rename_i p
  obtain ⟨rfl, C, R, k, h, hC, hR10, hk, eN, eR, hhd, h0, hA0, hm, hF0, hs⟩ := hs
  have hhR : ∀ c, c ≤ C + R → h c ≤ R := fun c hc => by
    rcases Nat.eq_zero_or_pos c with e | e
    · rw [e, h0]; omega
    · have := hm.1 c e hc; omega
  have l2 : ∀ m n, m + n = k + 2 → ∀ o rp cp sl cf rc, hP C R (k + 1) n (rL g 35) rp cp sl cf rc h o → hF C R (if n = 0 then k else k + 1) (rL g 35) rp cp h → J 34 [some (.ref 34), some (.int (nI (o n))), some (.int (nI n))] [] (gL (gL (gL (gA (gA g 40 cf) 42 rc) 37 rp) 38 cp) 39 sl) := by
    intro m
    induction m with
    | zero =>
      intro n hmn o rp cp sl cf rc hp hF
      have := (hP_le hm hp).2.1; omega
    | succ m ih =>
      intro n hmn o rp cp sl cf rc hp hF
      have hle := hP_le hm hp
      have ho := hp.2.2.1 n (Nat.le_refl _)
      have hdn := hdC_nI (by omega) (hhd (o n) ho) eR hR10 (hhR _ ho)
      by_cases hz : h (o n) = 0
      · have hs := hs n o rp cp sl cf rc hp hF hz
        rw [hz] at hdn
        apply hR 60
        simp (maxSteps := 10000000) (disch := omega) only [hS, hn, sm_eqs, hf, ha, sm_b0, Int.reduceToNat, ↓reduceIte, Nat.reduceEqDiff, true_and, and_true, List.length_nil, List.length_cons, Nat.reduceAdd, Nat.reduceLeDiff, Nat.zero_le, false_implies, true_implies, not_true_eq_false, not_false_eq_true, implies_true, Nat.reduceSub, Nat.reduceMul, Nat.reduceDiv, reduceCtorEq, tn_clamp, nI_t, tn_nI, nI_add, pk_mul, rS_gS, rS_gA, rS_gL, rA_gS, rA_gA, rA_gL, rL_gS, rL_gA, rL_gL, and_self, and_false, false_and, if_true, if_false, true_or, or_true, or_false, false_or, sm_in, eqI, sI_s, Int32.toInt_zero, Int.natCast_zero, Int.natCast_one, Int.cast_ofNat_Int, Int.reduceEq, Int.reduceLT, Int.reduceLE, Int.reduceNeg, Int.reduceNe, ne_eq, n_up, g_up, e_cat, fr_A, fr_O, fr_P, fr_L, sp_X1_holderOf, sp_X1_lookFrom, sp_X1_nearest, sp_X1_changePrices, eN, fr_hd, hdn]
        repeat' (first | (refine And.intro ?_ ?_) | (intro _))
        all_goals (first | with_reducible assumption | omega | (exfalso; omega))
      · have hnk := hle.2.2 hz
        have hdz : ¬ (nI (h (o n))).toInt = 0 := by
          have := hhR _ ho
          rw [nI_t (by omega)]; omega
        have hrc : ∀ c, c ≤ C + R → upd rc (o n) (nI 1) c = nI 0 ∨ upd rc (o n) (nI 1) c = nI 1 := fun c hc => by
          by_cases e : c = o n
          · rw [e]; exact Or.inr pk_us
          · rw [pk_un e]
            rcases hp.2.2.2.2.1 c hc with ⟨r, _⟩ | ⟨r, _⟩
            · exact Or.inr r
            · exact Or.inl r
        have hr0 : ∀ c, c ≤ C + R → (upd rc (o n) (nI 1) c).toInt = 0 → upd rc (o n) (nI 1) c = nI 0 := fun c hc e => by
          rcases hrc c hc with r | r
          · exact r
          · rw [r] at e; exact absurd e (by decide)
        have hr1 : ∀ c, c ≤ C + R → (upd rc (o n) (nI 1) c).toInt ≠ 0 → upd rc (o n) (nI 1) c = nI 1 := fun c hc e => by
          rcases hrc c hc with r | r
          · rw [r] at e; exact absurd rfl e
          · exact r
        have hrow := hP_row hm hp hz
        have hpos : ∀ c, c ≤ C + R → upd rc (o n) (nI 1) c = nI 1 → 1 ≤ h c := fun c hc e => by
          by_cases e2 : c = o n
          · rw [e2]; omega
          · rw [pk_un e2] at e
            rcases hp.2.2.2.2.1 c hc with ⟨_, t, ht, et⟩ | ⟨r, _⟩
            · have := hrow t (by omega); rw [et] at this; omega
            · rw [r] at e; exact absurd e nI01
        have hinj : ∀ c b, c ≤ C + R → b ≤ C + R → ¬ (upd rc (o n) (nI 1) c).toInt = 0 → ¬ (upd rc (o n) (nI 1) b).toInt = 0 → h c = h b → c = b := fun c b hc hb x y e => by
          have q1 := hpos c hc (hr1 c hc x)
          rcases Nat.eq_zero_or_pos c with a | a <;> rcases Nat.eq_zero_or_pos b with a2 | a2
          · omega
          · have := hm.1 b a2 hb; rw [a, h0] at e; omega
          · have := hm.1 c a hc; rw [a2, h0] at e; omega
          · exact hm.2.1 c b a hc a2 hb e (by omega)
        clear hs
        apply hR 60
        simp (maxSteps := 10000000) (disch := omega) only [hS, hn, sm_eqs, hf, ha, sm_b0, Int.reduceToNat, ↓reduceIte, Nat.reduceEqDiff, true_and, and_true, List.length_nil, List.length_cons, Nat.reduceAdd, Nat.reduceLeDiff, Nat.zero_le, false_implies, true_implies, not_true_eq_false, not_false_eq_true, implies_true, Nat.reduceSub, Nat.reduceMul, Nat.reduceDiv, reduceCtorEq, tn_clamp, nI_t, tn_nI, nI_add, pk_mul, rS_gS, rS_gA, rS_gL, rA_gS, rA_gA, rA_gL, rL_gS, rL_gA, rL_gL, and_self, and_false, false_and, if_true, if_false, true_or, or_true, or_false, false_or, sm_in, eqI, sI_s, Int32.toInt_zero, Int.natCast_zero, Int.natCast_one, Int.cast_ofNat_Int, Int.reduceEq, Int.reduceLT, Int.reduceLE, Int.reduceNeg, Int.reduceNe, ne_eq, n_up, g_up, e_cat, fr_A, fr_O, fr_P, fr_L, sp_X1_holderOf, sp_X1_lookFrom, sp_X1_nearest, sp_X1_changePrices, eN, fr_hd, hdn, hdz, lkC, ckC]
        clear hS hR
        refine ⟨fun hlt => absurd hlt (by omega), fun _ => ⟨by omega, C + R, o n, h (o n), by omega, (nI_t (by omega)).symm, (nI_t (by omega)).symm, by omega, by rw [hdn], by have := hhR _ ho; omega, fun sl1 cf1 hlk => ?_⟩⟩
        have e1 : ∀ c, 1 ≤ c → c ≤ C + R → upd rc (o n) (nI 1) c = nI 0 → ((rL g 35 (h (o n) * 31 + c) - rp (h (o n)) - cp c).toInt < (sl c).toInt → sl1 c = rL g 35 (h (o n) * 31 + c) - rp (h (o n)) - cp c ∧ cf1 c = nI (o n)) ∧ (¬ (rL g 35 (h (o n) * 31 + c) - rp (h (o n)) - cp c).toInt < (sl c).toInt → sl1 c = sl c ∧ cf1 c = cf c) := fun c c1 c2 hr => by
          obtain ⟨a, b⟩ := hlk c c1 c2
          refine ⟨fun hlt => ?_, fun hnl => ?_⟩
          · have := a ⟨by rw [hr]; rfl, hlt⟩
            exact ⟨this.1, Int32.toInt_inj.mp this.2⟩
          · have := b (fun hx => hnl hx.2)
            exact ⟨this.1, Int32.toInt_inj.mp this.2⟩
        have e1' : ∀ c, 1 ≤ c → c ≤ C + R → upd rc (o n) (nI 1) c = nI 1 → cf1 c = cf c := fun c c1 c2 hr => by
          have := (hlk c c1 c2).2 (fun hx => by have h9 := hx.1; rw [hr] at h9; exact absurd h9 (by decide))
          exact Int32.toInt_inj.mp this.2
        obtain ⟨_, ⟨j, j1, j2, j3, j4⟩⟩ := hP_look hA0 hm hk hF hp hz e1
        refine ⟨C + R, by omega, (nI_t (by omega)).symm, ⟨j, j1, j2, by rw [j3]; rfl, by omega⟩, fun f f1 f2 f3 f4 => ⟨by rw [nI_t (by omega)]; omega, C + R, h, by omega, (nI_t (by omega)).symm, fun c hc _ => ⟨by rw [hdC_nI (by omega) (hhd c hc) eR hR10 (hhR _ hc)], by have := hhR c hc; omega⟩, hinj, fun rp2 cp2 sl2 a1 a2 a3 => ?_⟩⟩
        rw [tn_nI (by omega)] at a1 a2
        obtain ⟨n1, n2⟩ := hP_step hA0 hm hk hF hp hz e1 e1' f1 f2 (hr0 f f2 f3) (fun c c1 c2 c3 => f4 c c1 c2 (by rw [c3]; rfl)) (fun c hc r => (a1 c hc (by rw [r]; decide)).1) (fun i hi hx => a3 i (by omega) (fun c hc r => hx c hc (hr1 c hc r)))
          (fun c hc => ⟨fun r => (a1 c hc (by rw [r]; decide)).2, fun r => (a2 c hc (by rw [r]; rfl)).1⟩) (fun c hc r => (a2 c hc (by rw [r]; rfl)).2)
        have ih := ih (n + 1) (by omega) _ rp2 cp2 sl2 cf1 (upd rc (o n) (nI 1)) n2 (by rw [if_neg (by omega)]; exact n1)
        rw [if_pos rfl] at ih
        exact ih
  have l1 : ∀ m j, m = 31 - j → j ≤ 31 → ∀ sl rc, (∀ c, c < j → sl c = lN 4611686018427387904 ∧ rc c = nI 0) → J 2 [some (.ref 34), some (.int (nI j)), none] [] (gL (gA g 42 rc) 39 sl) := by
    intro m
    induction m with
    | zero =>
      intro j hm2 hj sl rc hi
      obtain rfl : j = 31 := by omega
      have l2 := l2 (k + 2) 0 (by omega) (fun _ => 0) (rL g 37) (rL g 38) sl (rA g 40) rc (hP_first h0 (fun c hc => by rw [(hi c (by omega)).1]; exact far_t) (fun c hc => (hi c (by omega)).2)) hF0
      rw [gA_self, show rL g 37 = rL (gA g 42 rc) 37 from rfl, gL_self, show rL g 38 = rL (gA g 42 rc) 38 from rfl, gL_self] at l2
      clear hs
      apply hR 60
      simp (maxSteps := 10000000) (disch := omega) only [hS, hn, sm_eqs, hf, ha, sm_b0, Int.reduceToNat, ↓reduceIte, Nat.reduceEqDiff, true_and, and_true, List.length_nil, List.length_cons, Nat.reduceAdd, Nat.reduceLeDiff, Nat.zero_le, false_implies, true_implies, not_true_eq_false, not_false_eq_true, implies_true, Nat.reduceSub, Nat.reduceMul, Nat.reduceDiv, reduceCtorEq, tn_clamp, nI_t, tn_nI, nI_add, pk_mul, rS_gS, rS_gA, rS_gL, rA_gS, rA_gA, rA_gL, rL_gS, rL_gA, rL_gL, and_self, and_false, false_and, if_true, if_false, true_or, or_true, or_false, false_or, sm_in, eqI, sI_s, Int32.toInt_zero, Int.natCast_zero, Int.natCast_one, Int.cast_ofNat_Int, Int.reduceEq, Int.reduceLT, Int.reduceLE, Int.reduceNeg, Int.reduceNe, ne_eq, n_up, g_up, e_cat, fr_A, fr_O, fr_P, fr_L, sp_X1_holderOf, sp_X1_lookFrom, sp_X1_nearest, sp_X1_changePrices]
      repeat' (first | (refine And.intro ?_ ?_) | (intro _))
      all_goals (first | with_reducible assumption | omega | (exfalso; omega))
    | succ m ih =>
      intro j hm2 hj sl rc hi
      have ih := ih (j + 1) (by omega) (by omega) (vp_updL sl j (lN 4611686018427387904)) (upd rc j (nI 0)) (fun c hc => by
        by_cases e : c = j
        · subst e; rw [pk_uLs, pk_us]; exact ⟨rfl, rfl⟩
        · rw [pk_uLn e, pk_un e]; exact hi c (by omega))
      clear hs l2
      apply hR 60
      simp (maxSteps := 10000000) (disch := omega) only [hS, hn, sm_eqs, hf, ha, sm_b0, Int.reduceToNat, ↓reduceIte, Nat.reduceEqDiff, true_and, and_true, List.length_nil, List.length_cons, Nat.reduceAdd, Nat.reduceLeDiff, Nat.zero_le, false_implies, true_implies, not_true_eq_false, not_false_eq_true, implies_true, Nat.reduceSub, Nat.reduceMul, Nat.reduceDiv, reduceCtorEq, tn_clamp, nI_t, tn_nI, nI_add, pk_mul, rS_gS, rS_gA, rS_gL, rA_gS, rA_gA, rA_gL, rL_gS, rL_gA, rL_gL, and_self, and_false, false_and, if_true, if_false, true_or, or_true, or_false, false_or, sm_in, eqI, sI_s, Int32.toInt_zero, Int.natCast_zero, Int.natCast_one, Int.cast_ofNat_Int, Int.reduceEq, Int.reduceLT, Int.reduceLE, Int.reduceNeg, Int.reduceNe, ne_eq, n_up, g_up, e_cat, fr_A, fr_O, fr_P, fr_L, sp_X1_holderOf, sp_X1_lookFrom, sp_X1_nearest, sp_X1_changePrices]
      repeat' (first | (refine And.intro ?_ ?_) | (intro _))
      all_goals (first | with_reducible assumption | omega | (exfalso; omega))
  have h9 := l1 _ 0 rfl (Nat.zero_le _) (rL g 39) (rA g 42) (fun c hc => by omega)
  rw [gA_self, gL_self] at h9
  clear hs l2 l1
  apply hR 40
  simp (maxSteps := 10000000) (disch := omega) only [hS, hn, sm_eqs, hf, ha, sm_b0, Int.reduceToNat, ↓reduceIte, Nat.reduceEqDiff, true_and, and_true, List.length_nil, List.length_cons, Nat.reduceAdd, Nat.reduceLeDiff, Nat.zero_le, false_implies, true_implies, not_true_eq_false, not_false_eq_true, implies_true, Nat.reduceSub, Nat.reduceMul, Nat.reduceDiv, reduceCtorEq, tn_clamp, nI_t, tn_nI, nI_add, pk_mul, rS_gS, rS_gA, rS_gL, rA_gS, rA_gA, rA_gL, rL_gS, rL_gA, rL_gL, and_self, and_false, false_and, if_true, if_false, true_or, or_true, or_false, false_or, sm_in, eqI, sI_s, Int32.toInt_zero, Int.natCast_zero, Int.natCast_one, Int.cast_ofNat_Int, Int.reduceEq, Int.reduceLT, Int.reduceLE, Int.reduceNeg, Int.reduceNe, ne_eq, n_up, g_up, e_cat, fr_A, fr_O, fr_P, fr_L, sp_X1_holderOf, sp_X1_lookFrom, sp_X1_nearest, sp_X1_changePrices]
  exact h9
theorem ok_X1_reachFree (l : Launch) : sm_spok l lay sm_mt 3 18 sp_X1_reachFree := Or.inr (Or.inr (Or.inr ⟨by decide, by decide, by
  rw [mt_18]
  exact sm_method (T := TX1_) v_cok v_lok v_ka v_tok_X1 mok_X1_reachFree rfl (by unfold sm_rk; simp) wf_X1_reachFree (List.forall_mem_cons.mpr ⟨sm_spok_up (Nat.le_of_ble_eq_true rfl : 1 ≤ 2) (ok_X1_holderOf l), List.forall_mem_cons.mpr ⟨sm_spok_up (Nat.le_of_ble_eq_true rfl : 2 ≤ 2) (ok_X1_lookFrom l), List.forall_mem_cons.mpr ⟨sm_spok_up (Nat.le_of_ble_eq_true rfl : 1 ≤ 2) (ok_X1_nearest l), List.forall_mem_cons.mpr ⟨sm_spok_up (Nat.le_of_ble_eq_true rfl : 2 ≤ 2) (ok_X1_changePrices l), fun _ h => absurd h List.not_mem_nil⟩⟩⟩⟩) b_X1_reachFree⟩))
def sp_X1_passOn : sm_SP := fun as g K => match as with
  | [.ref p, .int f] => p = 34 ∧ ∃ (C R k n : Nat) (h o : Nat → Nat), C ≤ 20 ∧ R ≤ 10 ∧ k < R ∧ rS g 34 110 = nI (C + R) ∧ rS g 34 108 = nI R ∧ (∀ c, c ≤ C + R → rA g 41 c = nI (h c)) ∧ f = nI (o n) ∧ hM C R k h ∧ hF C R (if n = 0 then k else k + 1) (rL g 35) (rL g 37) (rL g 38) h ∧
      hP C R (k + 1) n (rL g 35) (rL g 37) (rL g 38) (rL g 39) (rA g 40) (rA g 42) h o ∧ h (o n) = 0 ∧ (∀ hd q, (∀ c, c ≤ C + R → hd c = nI (q c)) → hM C R (k + 1) q → hF C R (k + 1) (rL g 35) (rL g 37) (rL g 38) q → K none (gA g 41 hd))
  | _ => False
theorem wf_X1_passOn : sm_wf lay (yX1_passOn, cX1_passOn, 5, none) 2 false sp_X1_passOn := by
  intro as g K h
  simp only [sp_X1_passOn] at h
  split at h
  · exact ⟨Nat.le_of_ble_eq_true rfl, by simp, rfl, fun _ => by obtain rfl := h.1; exact ⟨34, _, 1, [37, 38, 39, 40, 41, 42, 43, 44, 1, 1, 1], TX1, 11, rfl, rfl, rfl⟩⟩
  · exact h.elim
set_option maxHeartbeats 4000000 in
set_option maxRecDepth 100000 in
theorem b_X1_passOn : sm_body lay NX1_passOn 5 4 (sm_cl [(19, sp_X1_holderOf)]) sp_X1_passOn := by
  intro K J S hW as g hs
  have hn := n_X1_passOn
  have hf := fd_all
  have ha := ar_all
  generalize NX1_passOn = N at hn hW
  generalize lay = L at hf ha hW
  obtain ⟨hS, hR⟩ := hW
  simp only [sp_X1_passOn] at hs
  split at hs
  case h_2 => exact hs.elim
  simp only [e_args, sm_pad, List.length_cons, List.length_nil, Nat.reduceAdd, Nat.reduceSub, List.replicate_succ, List.replicate_zero, List.cons_append, List.nil_append]
  rename_i p f
  obtain ⟨rfl, C, R, k, n, h, o, hC, hR10, hk, eN, eR, hhd, rfl, hm, hF, hp, hz, hs⟩ := hs
  obtain ⟨hq0, hn1⟩ := hQ_first hm hF hp hz
  have hle := hP_le hm hp
  rw [if_neg (by omega)] at hF
  have hzn : ∀ u, u < n → h (o u) ≤ R := fun u hu => by
    rcases Nat.eq_zero_or_pos u with e | e
    · rw [e, hp.2.1, hp.1]; omega
    · have := hm.1 (o u) (hle.1 u e (by omega)) (hp.2.2.1 u (by omega)); omega
  have loop : ∀ m t, t ≤ m → t ≤ n → ∀ hd q s v4, (∀ c, c ≤ C + R → hd c = nI (q c)) → hQ C R k (rL g 35) (rL g 37) (rL g 38) h o t q → s + t ≤ n → J 4 [some (.ref 34), some (.int (nI (o n))), some (.int (nI (o t))), some (.int (nI s)), v4] [] (gA g 41 hd) := by
    intro m
    induction m with
    | zero =>
      intro t htm htn hd q s v4 hhq hq hst
      obtain rfl : t = 0 := by omega
      obtain ⟨m1, m2⟩ := hQ_last hp.2.1 hF hq
      have hs := hs hd q hhq m1 m2
      have ho := hp.2.1
      apply hR 60
      simp (maxSteps := 10000000) (disch := omega) only [hS, hn, sm_eqs, hf, ha, sm_b0, Int.reduceToNat, ↓reduceIte, Nat.reduceEqDiff, true_and, and_true, List.length_nil, List.length_cons, Nat.reduceAdd, Nat.reduceLeDiff, Nat.zero_le, false_implies, true_implies, not_true_eq_false, not_false_eq_true, implies_true, Nat.reduceSub, Nat.reduceMul, Nat.reduceDiv, reduceCtorEq, tn_clamp, nI_t, tn_nI, nI_add, pk_mul, rS_gS, rS_gA, rS_gL, rA_gS, rA_gA, rA_gL, rL_gS, rL_gA, rL_gL, and_self, and_false, false_and, if_true, if_false, true_or, or_true, or_false, false_or, sm_in, eqI, sI_s, Int32.toInt_zero, Int.natCast_zero, Int.natCast_one, Int.cast_ofNat_Int, Int.reduceEq, Int.reduceLT, Int.reduceLE, Int.reduceNeg, Int.reduceNe, ne_eq, n_up, g_up, e_cat, fr_A, fr_O, fr_P, fr_L, sp_X1_holderOf, eN, ho]
      repeat' (first | (refine And.intro ?_ ?_) | (intro _))
      all_goals (first | with_reducible assumption | omega | (exfalso; omega))
    | succ m ih =>
      intro t htm htn hd q s v4 hhq hq hst
      by_cases ht : t = 0
      · exact ih t (by omega) htn hd q s v4 hhq hq hst
      · obtain ⟨u, hu, hcf, htg⟩ := hp.2.2.2.2.2.2.1 t (by omega) htn
        have hot := hle.1 t (by omega) htn
        have hoN := hp.2.2.1 t htn
        have huN := hp.2.2.1 u (by omega)
        have hqu : q (o u) = h (o u) := hq.2.2.2.2.2 u hu
        have hdu : hdC (gA g 41 hd) (nI (o u)) = nI (q (o u)) := hdC_nI (R := R) (by omega) (hhq (o u) huN) eR hR10 (by rw [hqu]; exact hzn u (by omega))
        have ih := ih u (by omega) (by omega) (upd hd (o t) (nI (q (o u)))) _ (s + 1) (some (.int (nI (o u)))) (fun c hc => by
          by_cases e : c = o t
          · rw [e, pk_us, if_pos rfl]
          · rw [pk_un e, if_neg e]; exact hhq c hc) (hQ_step hm hp htn hu htg hq) (by omega)
        clear hs
        apply hR 60
        simp (maxSteps := 10000000) (disch := omega) only [hS, hn, sm_eqs, hf, ha, sm_b0, Int.reduceToNat, ↓reduceIte, Nat.reduceEqDiff, true_and, and_true, List.length_nil, List.length_cons, Nat.reduceAdd, Nat.reduceLeDiff, Nat.zero_le, false_implies, true_implies, not_true_eq_false, not_false_eq_true, implies_true, Nat.reduceSub, Nat.reduceMul, Nat.reduceDiv, reduceCtorEq, tn_clamp, nI_t, tn_nI, nI_add, pk_mul, rS_gS, rS_gA, rS_gL, rA_gS, rA_gA, rA_gL, rL_gS, rL_gA, rL_gL, and_self, and_false, false_and, if_true, if_false, true_or, or_true, or_false, false_or, sm_in, eqI, sI_s, Int32.toInt_zero, Int.natCast_zero, Int.natCast_one, Int.cast_ofNat_Int, Int.reduceEq, Int.reduceLT, Int.reduceLE, Int.reduceNeg, Int.reduceNe, ne_eq, n_up, g_up, e_cat, fr_A, fr_O, fr_P, fr_L, sp_X1_holderOf, eN, hcf, hdu]
        repeat' (first | (refine And.intro ?_ ?_) | (intro _))
        all_goals (first | with_reducible assumption | omega | (exfalso; omega))
  have h9 := loop n n (Nat.le_refl _) (Nat.le_refl _) (rA g 41) h 0 none hhd hq0 (by omega)
  rw [gA_self] at h9
  clear hs loop
  apply hR 40
  simp (maxSteps := 10000000) (disch := omega) only [hS, hn, sm_eqs, hf, ha, sm_b0, Int.reduceToNat, ↓reduceIte, Nat.reduceEqDiff, true_and, and_true, List.length_nil, List.length_cons, Nat.reduceAdd, Nat.reduceLeDiff, Nat.zero_le, false_implies, true_implies, not_true_eq_false, not_false_eq_true, implies_true, Nat.reduceSub, Nat.reduceMul, Nat.reduceDiv, reduceCtorEq, tn_clamp, nI_t, tn_nI, nI_add, pk_mul, rS_gS, rS_gA, rS_gL, rA_gS, rA_gA, rA_gL, rL_gS, rL_gA, rL_gL, and_self, and_false, false_and, if_true, if_false, true_or, or_true, or_false, false_or, sm_in, eqI, sI_s, Int32.toInt_zero, Int.natCast_zero, Int.natCast_one, Int.cast_ofNat_Int, Int.reduceEq, Int.reduceLT, Int.reduceLE, Int.reduceNeg, Int.reduceNe, ne_eq, n_up, g_up, e_cat, fr_A, fr_O, fr_P, fr_L, sp_X1_holderOf]
  exact h9
theorem ok_X1_passOn (l : Launch) : sm_spok l lay sm_mt 2 23 sp_X1_passOn := Or.inr (Or.inr (Or.inr ⟨by decide, by decide, by
  rw [mt_23]
  exact sm_method (T := TX1_) v_cok v_lok v_ka v_tok_X1 mok_X1_passOn rfl (by unfold sm_rk; simp) wf_X1_passOn (List.forall_mem_cons.mpr ⟨sm_spok_up (Nat.le_of_ble_eq_true rfl : 1 ≤ 1) (ok_X1_holderOf l), fun _ h => absurd h List.not_mem_nil⟩) b_X1_passOn⟩))
theorem hM_0 {C R k : Nat} {h q : Nat → Nat} (hm : hM C R k h) (e : ∀ c, 1 ≤ c → q c = h c) : hM C R k q := by
  refine ⟨fun c c1 c2 => by rw [e c c1]; exact hm.1 c c1 c2, fun c d c1 c2 d1 d2 => by rw [e c c1, e d d1]; exact hm.2.1 c d c1 c2 d1 d2, fun i i1 i2 => ?_⟩
  obtain ⟨c, c1, c2, c3⟩ := hm.2.2 i i1 i2
  exact ⟨c, c1, c2, by rw [e c c1]; exact c3⟩
theorem hF_0 {C R k : Nat} {ct rp cp : Nat → Int64} {h q : Nat → Nat} (hf : hF C R k ct rp cp h) (e : ∀ c, 1 ≤ c → q c = h c) : hF C R k ct rp cp q :=
  ⟨hf.1, fun c c1 c2 => by rw [e c c1]; exact hf.2.1 c c1 c2, hf.2.2.1, fun c c1 c2 => by rw [e c c1]; exact hf.2.2.2.1 c c1 c2, hf.2.2.2.2⟩
def sp_X1_solve : sm_SP := fun as g K => match as with
  | [.ref p] => p = 34 ∧ ∃ (C R : Nat), C ≤ 20 ∧ R ≤ 10 ∧ rS g 34 108 = nI R ∧ rS g 34 110 = nI (C + R) ∧ hA C R (rL g 35) ∧ (∀ i, i < 11 → rL g 37 i = lN 0) ∧ (∀ j, j < 31 → rL g 38 j = lN 0) ∧ (∀ j, j < 31 → rA g 41 j = nI 0) ∧
      (∀ rp cp sl cf hd rc, hO C R (rL g 35) hd → K none (gL (gL (gL (gA (gA (gA g 40 cf) 41 hd) 42 rc) 37 rp) 38 cp) 39 sl))
  | _ => False
theorem wf_X1_solve : sm_wf lay (yX1_solve, cX1_solve, 2, none) 1 false sp_X1_solve := by
  intro as g K h
  simp only [sp_X1_solve] at h
  split at h
  · exact ⟨Nat.le_of_ble_eq_true rfl, by simp, rfl, fun _ => by obtain rfl := h.1; exact ⟨34, _, 1, [37, 38, 39, 40, 41, 42, 43, 44, 1, 1, 1], TX1, 11, rfl, rfl, rfl⟩⟩
  · exact h.elim
set_option maxHeartbeats 4000000 in
set_option maxRecDepth 100000 in
theorem b_X1_solve : sm_body lay NX1_solve 2 4 (sm_cl [(18, sp_X1_reachFree), (23, sp_X1_passOn)]) sp_X1_solve := by
  intro K J S hW as g hs
  have hn := n_X1_solve
  have hf := fd_all
  have ha := ar_all
  generalize NX1_solve = N at hn hW
  generalize lay = L at hf ha hW
  obtain ⟨hS, hR⟩ := hW
  simp only [sp_X1_solve] at hs
  split at hs
  case h_2 => exact hs.elim
  simp only [e_args, sm_pad, List.length_cons, List.length_nil, Nat.reduceAdd, Nat.reduceSub, List.replicate_succ, List.replicate_zero, List.cons_append, List.nil_append]
  rename_i p
  obtain ⟨rfl, C, R, hC, hR10, eR, eN, hA0, z1, z2, z3, hs⟩ := hs
  have loop : ∀ m k, m = R - k → k ≤ R → ∀ rp cp sl cf hd rc h, (∀ c, c ≤ C + R → hd c = nI (h c)) → hM C R k h → hF C R k (rL g 35) rp cp h → J 2 [some (.ref 34), some (.int (nI (k + 1)))] [] (gL (gL (gL (gA (gA (gA g 40 cf) 41 hd) 42 rc) 37 rp) 38 cp) 39 sl) := by
    intro m
    induction m with
    | zero =>
      intro k hmk hk rp cp sl cf hd rc h h1 h2 h3
      obtain rfl : k = R := by omega
      have hs := hs rp cp sl cf hd rc ⟨rp, cp, h, h1, h2, h3⟩
      apply hR 60
      simp (maxSteps := 10000000) (disch := omega) only [hS, hn, sm_eqs, hf, ha, sm_b0, Int.reduceToNat, ↓reduceIte, Nat.reduceEqDiff, true_and, and_true, List.length_nil, List.length_cons, Nat.reduceAdd, Nat.reduceLeDiff, Nat.zero_le, false_implies, true_implies, not_true_eq_false, not_false_eq_true, implies_true, Nat.reduceSub, Nat.reduceMul, Nat.reduceDiv, reduceCtorEq, tn_clamp, nI_t, tn_nI, nI_add, pk_mul, rS_gS, rS_gA, rS_gL, rA_gS, rA_gA, rA_gL, rL_gS, rL_gA, rL_gL, and_self, and_false, false_and, if_true, if_false, true_or, or_true, or_false, false_or, sm_in, eqI, sI_s, Int32.toInt_zero, Int.natCast_zero, Int.natCast_one, Int.cast_ofNat_Int, Int.reduceEq, Int.reduceLT, Int.reduceLE, Int.reduceNeg, Int.reduceNe, ne_eq, n_up, g_up, e_cat, fr_A, fr_O, fr_P, fr_L, sp_X1_reachFree, sp_X1_passOn, eR]
      repeat' (first | (refine And.intro ?_ ?_) | (intro _))
      all_goals (first | with_reducible assumption | omega | (exfalso; omega))
    | succ m ih =>
      intro k hmk hk rp cp sl cf hd rc h h1 h2 h3
      have ih := ih (k + 1) (by omega) (by omega)
      clear hs
      apply hR 60
      simp (maxSteps := 10000000) (disch := omega) only [hS, hn, sm_eqs, hf, ha, sm_b0, Int.reduceToNat, ↓reduceIte, Nat.reduceEqDiff, true_and, and_true, List.length_nil, List.length_cons, Nat.reduceAdd, Nat.reduceLeDiff, Nat.zero_le, false_implies, true_implies, not_true_eq_false, not_false_eq_true, implies_true, Nat.reduceSub, Nat.reduceMul, Nat.reduceDiv, reduceCtorEq, tn_clamp, nI_t, tn_nI, nI_add, pk_mul, rS_gS, rS_gA, rS_gL, rA_gS, rA_gA, rA_gL, rL_gS, rL_gA, rL_gL, and_self, and_false, false_and, if_true, if_false, true_or, or_true, or_false, false_or, sm_in, eqI, sI_s, Int32.toInt_zero, Int.natCast_zero, Int.natCast_one, Int.cast_ofNat_Int, Int.reduceEq, Int.reduceLT, Int.reduceLE, Int.reduceNeg, Int.reduceNe, ne_eq, n_up, g_up, e_cat, fr_A, fr_O, fr_P, fr_L, sp_X1_reachFree, sp_X1_passOn, eR]
      clear hS hR
      have hh0 : ∀ c, c ≤ C + R → (upd hd 0 (nI (k + 1)) c).toInt = (nI ((fun c => if c = 0 then k + 1 else h c) c)).toInt := fun c hc => by
        (try dsimp only)
        by_cases e : c = 0
        · rw [e, pk_us, if_pos rfl]
        · rw [pk_un e, if_neg e, h1 c hc]
      have hm2 : hM C R k (fun c => if c = 0 then k + 1 else h c) := hM_0 h2 (fun c hc => if_neg (by omega))
      have hf2 : hF C R k (rL g 35) rp cp (fun c => if c = 0 then k + 1 else h c) := hF_0 h3 (fun c hc => if_neg (by omega))
      refine ⟨fun h => absurd h (by omega), fun _ => ⟨C, R, k, fun c => if c = 0 then k + 1 else h c, hC, hR10, by omega, by rw [eN], (nI_t (by omega)).symm, hh0, if_pos rfl, hA0, hm2, hf2, fun n o rp2 cp2 sl2 cf2 rc2 hp2 hf3 hz2 => ⟨C, R, k, n, _, o, hC, hR10, by omega, by rw [eN], (nI_t (by omega)).symm, hh0, rfl, hm2, hf3, hp2, hz2, fun hd2 q a1 a2 a3 => ?_⟩⟩⟩
      exact ih rp2 cp2 sl2 cf2 hd2 rc2 q (fun c hc => Int32.toInt_inj.mp (a1 c hc)) a2 a3
  have h9 := loop _ 0 rfl (Nat.zero_le _) (rL g 37) (rL g 38) (rL g 39) (rA g 40) (rA g 41) (rA g 42) (fun _ => 0) (fun c hc => by rw [z3 c (by omega)]) ⟨fun c _ _ => Nat.le_refl _, fun c d _ _ _ _ _ h => absurd rfl h, fun i a b => by omega⟩
    ⟨fun i c a b => by omega, fun c _ _ h => absurd rfl h, fun c a b => by rw [z2 c (by omega)]; decide, fun c a b _ => by rw [z2 c (by omega)]; decide, fun i a b => by rw [z1 i (by omega)]; decide⟩
  rw [gA_self, show rA g 41 = rA (gA g 40 (rA g 40)) 41 from rfl] at h9
  rw [gA_self] at h9
  rw [gA_self, gA_self, gL_self, gL_self, gL_self] at h9
  clear hs loop
  apply hR 40
  simp (maxSteps := 10000000) (disch := omega) only [hS, hn, sm_eqs, hf, ha, sm_b0, Int.reduceToNat, ↓reduceIte, Nat.reduceEqDiff, true_and, and_true, List.length_nil, List.length_cons, Nat.reduceAdd, Nat.reduceLeDiff, Nat.zero_le, false_implies, true_implies, not_true_eq_false, not_false_eq_true, implies_true, Nat.reduceSub, Nat.reduceMul, Nat.reduceDiv, reduceCtorEq, tn_clamp, nI_t, tn_nI, nI_add, pk_mul, rS_gS, rS_gA, rS_gL, rA_gS, rA_gA, rA_gL, rL_gS, rL_gA, rL_gL, and_self, and_false, false_and, if_true, if_false, true_or, or_true, or_false, false_or, sm_in, eqI, sI_s, Int32.toInt_zero, Int.natCast_zero, Int.natCast_one, Int.cast_ofNat_Int, Int.reduceEq, Int.reduceLT, Int.reduceLE, Int.reduceNeg, Int.reduceNe, ne_eq, n_up, g_up, e_cat, fr_A, fr_O, fr_P, fr_L, sp_X1_reachFree, sp_X1_passOn]
  exact h9
theorem ok_X1_solve (l : Launch) : sm_spok l lay sm_mt 4 17 sp_X1_solve := Or.inr (Or.inr (Or.inr ⟨by decide, by decide, by
  rw [mt_17]
  exact sm_method (T := TX1_) v_cok v_lok v_ka v_tok_X1 mok_X1_solve rfl (by unfold sm_rk; simp) wf_X1_solve (List.forall_mem_cons.mpr ⟨sm_spok_up (Nat.le_of_ble_eq_true rfl : 3 ≤ 3) (ok_X1_reachFree l), List.forall_mem_cons.mpr ⟨sm_spok_up (Nat.le_of_ble_eq_true rfl : 2 ≤ 3) (ok_X1_passOn l), fun _ h => absurd h List.not_mem_nil⟩⟩) b_X1_solve⟩))
