/-! A claim is given; counts; the group's answers. -/
theorem ivT_fin (g : sm_G) (c : Nat) (s : Int32) : ivT (fin g c s) = ivT g ∧ ivR (fin g c s) = ivR g ∧ ivQ (fin g c s) = ivQ g := by
  unfold fin; split
  · exact ⟨rfl, rfl, rfl⟩
  · exact ⟨rfl, rfl, rfl⟩
theorem iv_fin {g : sm_G} (h : iv g) {c : Nat} {s : Int32} (hc : c < nC g) (hs : 1 < s.toInt ∧ s.toInt ≤ 5) : iv (fin g c s) := by
  obtain ⟨e1, e2, e3⟩ := ivT_fin g c s
  have hG := iv_wG h
  have zc := (iv_z h).2.2.2.2
  obtain ⟨iQ, iR, iT, iC⟩ := h
  have eC : nC (fin g c s) = nC g := by simp only [nC, fin_S]
  have eR : nR (fin g c s) = nR g := by simp only [nR, fin_S]
  have eT : nT (fin g c s) = nT g := by simp only [nT, fin_S]
  have a26 := fin_A g c s 26 (by decide) (by decide)
  have a27 := fin_A g c s 27 (by decide) (by decide)
  have a29 := fin_A g c s 29 (by decide) (by decide)
  have a23 := fin_A g c s 23 (by decide) (by decide)
  refine ⟨by rw [e3]; exact iQ, by rw [e2]; exact iR, by rw [e1]; exact iT, ?_, by rw [a29]; exact iC.2.1, fun k hk => ?_, stOk_fin hG.2.2.2.2.2.2.1 hc zc.2 (hG.2.2.2.1 c hc) hs.1⟩
  · unfold zC; rw [eC, fin_S]; exact zc
  · rw [eC] at hk
    obtain ⟨x1, x2, x3, x4, x5⟩ := iC.2.2.1 k hk
    rw [a26, a27, eR, eT, fin_28]
    refine ⟨x1, x2, ?_⟩
    by_cases e : k = c ∧ (rA g 28 c).toInt ≤ 1
    · rw [if_pos e]; exact ⟨by omega, hs.2, fun h => absurd h (by omega)⟩
    · rw [if_neg e]; exact ⟨x3, x4, fun h => by unfold whyC; rw [a23]; exact x5 h⟩
theorem iv_fins {g : sm_G} (h : iv g) {f : Nat → Bool} {s : Int32} (hs : 1 < s.toInt ∧ s.toInt ≤ 5) : ∀ n, n ≤ nC g → iv (fins g f s n) := by
  intro n
  induction n with
  | zero => intro _; exact h
  | succ n ih =>
    intro hn
    simp only [fins]
    split
    · exact iv_fin (ih (by omega)) (by rw [fins_C]; omega) hs
    · exact ih (by omega)
theorem iv_14 {g : sm_G} (h : iv g) (r : Nat) : iv (gA g 14 (upd (rA g 14) r (nI 0))) := by
  obtain ⟨iQ, iR, iT, iC⟩ := h
  refine ⟨iQ, ⟨iR.1, iR.2.1, iR.2.2.1, iR.2.2.2.1, iR.2.2.2.2.1, fun i => ?_⟩, iT, iC⟩
  show upd (rA g 14) r (nI 0) i = nI 0 ∨ upd (rA g 14) r (nI 0) i = nI 1
  by_cases e : i = r
  · rw [e, pk_us]; exact Or.inl rfl
  · rw [pk_un e]; exact iR.2.2.2.2.2 i
/-- the claim is given, its report shut -/
def givA (g : sm_G) (c : Nat) : sm_G := fins (gA (fin g c (nI 4)) 14 (upd (rA g 14) (tn (rA g 26 c)) (nI 0))) (fun k => (rA g 26 k).toInt == (rA g 26 c).toInt) (nI 2) (nC g)
def giveG (g : sm_G) (c : Nat) : sm_G := goT 60 (givA g c) (tn (rA g 27 c)) (rA g 13 (tn (rA g 26 c))) (nI 1)
theorem giv_ok {g : sm_G} (h : iv g) {c : Nat} (hc : c < nC g) (hst : (rA g 28 c).toInt ≤ 1) : iv (givA g c) ∧ tn (rA g 27 c) < nT (givA g c) ∧ whyC (givA g c) (tn (rA g 27 c)) = -1 ∧ nT (givA g c) = nT g ∧ nO (givA g c) = nO g := by
  have h1 : iv (fin g c (nI 4)) := iv_fin h hc (by decide)
  have h14 : rA (fin g c (nI 4)) 14 = rA g 14 := fin_A g c (nI 4) 14 (by decide) (by decide)
  have h2 := iv_14 h1 (tn (rA g 26 c))
  rw [h14] at h2
  have eC : nC (gA (fin g c (nI 4)) 14 (upd (rA g 14) (tn (rA g 26 c)) (nI 0))) = nC g := by show nC (fin g c (nI 4)) = _; simp only [nC, fin_S]
  have h3 := iv_fins h2 (f := fun k => (rA g 26 k).toInt == (rA g 26 c).toInt) (s := nI 2) (by decide) (nC g) (by rw [eC]; exact Nat.le_refl _)
  have eT : nT (givA g c) = nT g := by unfold givA; simp only [nT, fins_S, rS_gA, fin_S]
  have eO : nO (givA g c) = nO g := by unfold givA; simp only [nO, fins_S, rS_gA, fin_S]
  obtain ⟨x1, ⟨t, t1, t2⟩, x3, x4, x5⟩ := h.2.2.2.2.2.1 c hc
  have hzt := h.2.2.1.1.2
  refine ⟨h3, by rw [eT, t2, tn_nI (by omega)]; exact t1, ?_, eT, eO⟩
  unfold whyC givA
  rw [fins_A _ _ _ _ (by decide) (by decide), rA_gA, if_neg (by decide), fin_A _ _ _ _ (by decide) (by decide)]
  exact x5 hst
theorem give_ok {g : sm_G} (h : iv g) {c : Nat} (hc : c < nC g) (hst : (rA g 28 c).toInt ≤ 1) : iv (giveG g c) := by
  obtain ⟨g1, g2, g3, g4, g5⟩ := giv_ok h hc hst
  obtain ⟨q1, q2, q3⟩ := gT_ok 60 (givA g c) (tn (rA g 27 c)) (rA g 13 (tn (rA g 26 c))) (nI 1) (by decide) (iv_wG g1) g2 g3 (by have := g1.2.2.1.1.2; omega)
  exact gP_iv g1 (by decide) q1 q2
def sp_X9_give : sm_SP := fun as g K => match as with
  | [.ref p, .int c] => p = 0 ∧ iv g ∧ (¬ stdC g c → K (some (.int (nI 1))) g) ∧ (stdC g c → ((rA g 28 (tn c)).toInt ≠ 1 → K (some (.int (nI 2))) g) ∧ ((rA g 28 (tn c)).toInt = 1 →
      ((∃ d, d < tn c ∧ (rA g 28 d).toInt = 1 ∧ (rA g 27 d).toInt = (rA g 27 (tn c)).toInt) → K (some (.int (nI 3))) g) ∧ ((¬ ∃ d, d < tn c ∧ (rA g 28 d).toInt = 1 ∧ (rA g 27 d).toInt = (rA g 27 (tn c)).toInt) →
      (¬ fitC g (tn (rA g 26 (tn c))) (tn (rA g 27 (tn c))) → K (some (.int (nI 4))) g) ∧ (fitC g (tn (rA g 26 (tn c))) (tn (rA g 27 (tn c))) →
      ((rA g 16 (tn (rA g 27 (tn c)))).toInt = 3 ∧ rA g 29 (tn c) = nI 0 → K (some (.int (nI 5))) (gA g 29 (upd (rA g 29) (tn c) (nI 1)))) ∧ (¬ ((rA g 16 (tn (rA g 27 (tn c)))).toInt = 3 ∧ rA g 29 (tn c) = nI 0) → ∀ fb fa, K (some (.int (nI 0))) (gA (gA (giveG g (tn c)) 51 fb) 52 fa))))))
  | _ => False
theorem wf_X9_give : sm_wf lay (yX9_give, cX9_give, 4, (some .int)) 2 false sp_X9_give := by
  intro as g K h
  simp only [sp_X9_give] at h
  split at h
  · exact ⟨Nat.le_of_ble_eq_true rfl, by simp, rfl, fun _ => by obtain rfl := h.1; exact ⟨0, _, 9, [3, 8, 11, 14, 17, 27, 33, 35, 48, 52, 53, 1], TX9, 12, rfl, rfl, rfl⟩⟩
  · exact h.elim
set_option maxHeartbeats 4000000 in
set_option maxRecDepth 100000 in
theorem b_X9_give : sm_body lay NX9_give 4 0 (sm_cl [(30, sp_X2_isStanding), (31, sp_X2_stateOf), (32, sp_X2_reportOf), (33, sp_X2_thingOf), (39, sp_X2_isProvedAhead), (57, sp_X4_isFit), (96, sp_X8_kindOf), (40, sp_X2_isFirstAsked), (42, sp_X2_finish), (147, sp_X9_shut), (78, sp_X6_personOf), (155, sp_X9_sendWithContents)]) sp_X9_give := by
  intro K J S hW as g hs
  have hn := n_X9_give
  have hf := fd_all
  have ha := ar_all
  generalize NX9_give = N at hn hW
  generalize lay = L at hf ha hW
  obtain ⟨hS, hR⟩ := hW
  simp only [sp_X9_give] at hs
  split at hs
  case h_2 => exact hs.elim
  simp only [e_args, sm_pad, List.length_cons, List.length_nil, Nat.reduceAdd, Nat.reduceSub, List.replicate_succ, List.replicate_zero, List.cons_append, List.nil_append]
  rename_i p c
  obtain ⟨rfl, iv, h1, h2⟩ := hs
  obtain ⟨zq, zr, zt, zo, zc⟩ := iv_z iv
  by_cases hst : stdC g c
  · have h2 := h2 hst
    have hst2 := hst
    unfold stdC at hst2
    have hcc : okC g c := hst2.1
    obtain ⟨k, hk, rfl⟩ := ok_nI hcc
    have hzc := zc.2
    have hzt := zt.2
    have hzr := zr.2
    rw [tn_nI (by omega)] at hst2 h2
    obtain ⟨⟨r, r1, r2⟩, ⟨t, t1, t2⟩, x3, x4, x5⟩ := iv.2.2.2.2.2.1 k hk
    obtain ⟨v1, v2, v3, v4, v5⟩ := giv_ok iv hk hst2.2
    have hGv := iv_wG v1
    have w := iv_wQ iv
    obtain ⟨l6, l9⟩ := iv_wL iv
    have h29 := iv.2.2.2.2.1
    have h29b : ∀ i, (rA g 29 i).toInt = 0 ∨ (rA g 29 i).toInt = 1 := fun i => by rcases h29 i with e | e <;> rw [e] <;> decide
    have e29 : (rA g 29 k = nI 0) = ((rA g 29 k).toInt = 0) := by rw [eqI]; rfl
    have hok : okR g (nI r) := by unfold okR; rw [nI_t (by omega)]; omega
    have hokt : okT g (nI t) := by unfold okT; rw [nI_t (by omega)]; omega
    have hsm : ∀ c, c < nC g → 0 ≤ (rA g 27 c).toInt ∧ (rA g 27 c).toInt < 60 := fun c hc => (iv_wG iv).2.2.2.1 c hc
    have hfS : ∀ a b, rS (fin g k (nI 4)) a b = rS g a b := fin_S g k (nI 4)
    have f27 := fin_A g k (nI 4) 27 (by decide) (by decide)
    have f26 := fin_A g k (nI 4) 26 (by decide) (by decide)
    have f14 := fin_A g k (nI 4) 14 (by decide) (by decide)
    have f13 := fin_A g k (nI 4) 13 (by decide) (by decide)
    have nCf : nC (fin g k (nI 4)) = nC g := by simp only [nC, fin_S]
    have nRf : nR (fin g k (nI 4)) = nR g := by simp only [nR, fin_S]
    have zCf : zC (fin g k (nI 4)) := by unfold zC; rw [nCf, fin_S]; exact zc
    have zRf : zR (fin g k (nI 4)) := by unfold zR; rw [nRf, fin_S]; exact zr
    clear iv h1
    simp (disch := omega) only [r2, t2, tn_nI, e29, nI_t] at h2 v2 v3
    have hV : fins (gA (fin g k (nI 4)) 14 (upd (rA (fin g k (nI 4)) 14) r (nI 0))) (fun c => (rA (fin g k (nI 4)) 26 c).toInt == (r : Int)) (nI 2) (nC (fin g k (nI 4))) = givA g k := by
      unfold givA
      rw [f14, f26, nCf, r2, tn_nI (by omega), nI_t (by omega)]
    have v13 : rA (givA g k) 13 r = rA g 13 r := by
      unfold givA
      rw [fins_A _ _ _ _ (by decide) (by decide), rA_gA, if_neg (by decide), f13]
    have zRV : zR (givA g k) := v1.2.1.2.2.2.2.1
    have nRV : nR (givA g k) = nR g := by unfold givA; simp only [nR, fins_S, rS_gA, fin_S]
    have okV : okR (givA g k) (nI r) := by unfold okR; rw [nRV, nI_t (by omega)]; omega
    have okf : okR (fin g k (nI 4)) (nI r) := by unfold okR; rw [nRf, nI_t (by omega)]; omega
    have smf : ∀ c, c < nC (fin g k (nI 4)) → 0 ≤ (rA (fin g k (nI 4)) 27 c).toInt ∧ (rA (fin g k (nI 4)) 27 c).toInt < 60 := fun c hc => by rw [f27]; exact hsm c (by rw [← nCf]; exact hc)
    have sgiv : giveG g k = goT 60 (givA g k) t (rA g 13 r) (nI 1) := by unfold giveG; rw [r2, t2, tn_nI (by omega), tn_nI (by omega)]
    rw [sgiv] at h2
    apply hR 90
    simp (maxSteps := 10000000) (disch := omega) only [hS, hn, sm_eqs, hf, ha, sm_b0, Int.reduceToNat, ↓reduceIte, Nat.reduceEqDiff, true_and, and_true, List.length_nil, List.length_cons, Nat.reduceAdd, Nat.reduceLeDiff, Nat.zero_le, false_implies, true_implies, not_true_eq_false, not_false_eq_true, implies_true, Nat.reduceSub, Nat.reduceMul, Nat.reduceDiv, reduceCtorEq, tn_clamp, nI_t, tn_nI, nI_add, pk_mul, rS_gS, rS_gA, rS_gL, rA_gS, rA_gA, rA_gL, rL_gS, rL_gA, rL_gL, and_self, and_false, false_and, if_true, if_false, true_or, or_true, or_false, false_or, sm_in, eqI, sI_s, Int32.toInt_zero, Int.natCast_zero, Int.natCast_one, Int.cast_ofNat_Int, Int.reduceEq, Int.reduceLT, Int.reduceLE, Int.reduceNeg, Int.reduceNe, ne_eq, n_up, g_up, e_cat, fr_A, fr_O, fr_P, fr_L, sp_X2_isStanding, sp_X2_stateOf, sp_X2_reportOf, sp_X2_thingOf, sp_X2_isProvedAhead, sp_X4_isFit, sp_X8_kindOf, sp_X2_isFirstAsked, sp_X2_finish, sp_X9_shut, sp_X6_personOf, sp_X9_sendWithContents, zc, zr, zt, hst, hcc, r2, t2, w, l6, l9, hok, hokt, h29b]
    clear hn hf ha hS hR
    simp only [hV, v13]
    refine ⟨fun s1 => ⟨fun p => (h2.2 s1).1 p, fun p => ⟨by omega, by omega, fun fi => ⟨fun k3 => ⟨fun h0 => (((h2.2 s1).2 p).2 fi).1 ⟨k3, h0⟩, fun h1 => ?_⟩, fun k3 => ?_⟩, fun fi => ((h2.2 s1).2 p).1 fi⟩⟩, fun s1 => h2.1 s1⟩
    · exact ⟨by omega, zRf, zCf, okf, smf, zRV, fun _ => ⟨hGv, t, (nI_t (by omega)).symm, v2, v3, (((h2.2 s1).2 p).2 fi).2 (fun h => by omega)⟩, fun h => absurd okV h⟩
    · exact ⟨by omega, zRf, zCf, okf, smf, zRV, fun _ => ⟨hGv, t, (nI_t (by omega)).symm, v2, v3, (((h2.2 s1).2 p).2 fi).2 (fun h => k3 h.1)⟩, fun h => absurd okV h⟩
  · have h1 := h1 hst
    clear h2
    apply hR 90
    simp (maxSteps := 10000000) (disch := omega) only [hS, hn, sm_eqs, hf, ha, sm_b0, Int.reduceToNat, ↓reduceIte, Nat.reduceEqDiff, true_and, and_true, List.length_nil, List.length_cons, Nat.reduceAdd, Nat.reduceLeDiff, Nat.zero_le, false_implies, true_implies, not_true_eq_false, not_false_eq_true, implies_true, Nat.reduceSub, Nat.reduceMul, Nat.reduceDiv, reduceCtorEq, tn_clamp, nI_t, tn_nI, nI_add, pk_mul, rS_gS, rS_gA, rS_gL, rA_gS, rA_gA, rA_gL, rL_gS, rL_gA, rL_gL, and_self, and_false, false_and, if_true, if_false, true_or, or_true, or_false, false_or, sm_in, eqI, sI_s, Int32.toInt_zero, Int.natCast_zero, Int.natCast_one, Int.cast_ofNat_Int, Int.reduceEq, Int.reduceLT, Int.reduceLE, Int.reduceNeg, Int.reduceNe, ne_eq, n_up, g_up, e_cat, fr_A, fr_O, fr_P, fr_L, sp_X2_isStanding, sp_X2_stateOf, sp_X2_reportOf, sp_X2_thingOf, sp_X2_isProvedAhead, sp_X4_isFit, sp_X8_kindOf, sp_X2_isFirstAsked, sp_X2_finish, sp_X9_shut, sp_X6_personOf, sp_X9_sendWithContents, zc, hst]
    exact h1
theorem ok_X9_give (l : Launch) : sm_spok l lay sm_mt 5 144 sp_X9_give := Or.inr (Or.inr (Or.inr ⟨by decide, by decide, by
  rw [mt_144]
  exact sm_method (T := TX9_) v_cok v_lok v_ka v_tok_X9 mok_X9_give rfl (by unfold sm_rk; simp) wf_X9_give (List.forall_mem_cons.mpr ⟨sm_spok_up (Nat.le_of_ble_eq_true rfl : 1 ≤ 4) (ok_X2_isStanding l), List.forall_mem_cons.mpr ⟨sm_spok_up (Nat.le_of_ble_eq_true rfl : 2 ≤ 4) (ok_X2_stateOf l), List.forall_mem_cons.mpr ⟨sm_spok_up (Nat.le_of_ble_eq_true rfl : 2 ≤ 4) (ok_X2_reportOf l), List.forall_mem_cons.mpr ⟨sm_spok_up (Nat.le_of_ble_eq_true rfl : 2 ≤ 4) (ok_X2_thingOf l), List.forall_mem_cons.mpr ⟨sm_spok_up (Nat.le_of_ble_eq_true rfl : 1 ≤ 4) (ok_X2_isProvedAhead l), List.forall_mem_cons.mpr ⟨sm_spok_up (Nat.le_of_ble_eq_true rfl : 4 ≤ 4) (ok_X4_isFit l), List.forall_mem_cons.mpr ⟨sm_spok_up (Nat.le_of_ble_eq_true rfl : 2 ≤ 4) (ok_X8_kindOf l), List.forall_mem_cons.mpr ⟨sm_spok_up (Nat.le_of_ble_eq_true rfl : 2 ≤ 4) (ok_X2_isFirstAsked l), List.forall_mem_cons.mpr ⟨sm_spok_up (Nat.le_of_ble_eq_true rfl : 1 ≤ 4) (ok_X2_finish l), List.forall_mem_cons.mpr ⟨sm_spok_up (Nat.le_of_ble_eq_true rfl : 3 ≤ 4) (ok_X9_shut l), List.forall_mem_cons.mpr ⟨sm_spok_up (Nat.le_of_ble_eq_true rfl : 2 ≤ 4) (ok_X6_personOf l), List.forall_mem_cons.mpr ⟨sm_spok_up (Nat.le_of_ble_eq_true rfl : 4 ≤ 4) (ok_X9_sendWithContents l), fun _ h => absurd h List.not_mem_nil⟩⟩⟩⟩⟩⟩⟩⟩⟩⟩⟩⟩) b_X9_give⟩))
def sp_X9_count : sm_SP := fun as g K => match as with
  | [.ref p, .int n] => p = 0 ∧ iv g ∧ (n.toInt = 0 → K (some (.int (rS g 0 911))) g) ∧ (n.toInt = 1 → K (some (.int (nI (nQ g)))) g) ∧ (n.toInt = 2 → K (some (.int (nI (nT g)))) g) ∧ (n.toInt = 3 → K (some (.int (nI (nR g)))) g) ∧ (n.toInt = 4 → K (some (.int (nI (cnt (fun r => rA g 14 r == nI 1) (nR g))))) g) ∧
      (n.toInt = 5 → K (some (.int (nI (nC g)))) g) ∧ (n.toInt = 6 → K (some (.int (isum (rA g 30) 60))) g) ∧ (7 ≤ n.toInt ∧ n.toInt ≤ 9 → K (some (.int (nI (cnt (fun t => (whC g t : Int) == n.toInt - 7) (nT g))))) g) ∧ (10 ≤ n.toInt ∧ n.toInt ≤ 13 → K (some (.int (nI (cnt (fun t => (rA g 23 t).toInt == n.toInt - 9) (nT g))))) g) ∧
      (n.toInt < 0 ∨ 13 < n.toInt → K (some (.int (sI 0))) g)
  | _ => False
theorem wf_X9_count : sm_wf lay (yX9_count, cX9_count, 2, (some .int)) 2 false sp_X9_count := by
  intro as g K h
  simp only [sp_X9_count] at h
  split at h
  · exact ⟨Nat.le_of_ble_eq_true rfl, by simp, rfl, fun _ => by obtain rfl := h.1; exact ⟨0, _, 9, [3, 8, 11, 14, 17, 27, 33, 35, 48, 52, 53, 1], TX9, 12, rfl, rfl, rfl⟩⟩
  · exact h.elim
set_option maxHeartbeats 4000000 in
set_option maxRecDepth 100000 in
theorem b_X9_count : sm_body lay NX9_count 2 0 (sm_cl [(65, sp_X5_size), (90, sp_X8_size), (75, sp_X6_size), (81, sp_X6_openCount), (27, sp_X2_size), (36, sp_X2_standingCount), (112, sp_X8_countPlaced), (113, sp_X8_countWhy)]) sp_X9_count := by
  intro K J S hW as g hs
  have hn := n_X9_count
  have hf := fd_all
  have ha := ar_all
  generalize NX9_count = N at hn hW
  generalize lay = L at hf ha hW
  obtain ⟨hS, hR⟩ := hW
  simp only [sp_X9_count] at hs
  split at hs
  case h_2 => exact hs.elim
  simp only [e_args, sm_pad, List.length_cons, List.length_nil, Nat.reduceAdd, Nat.reduceSub, List.replicate_succ, List.replicate_zero, List.cons_append, List.nil_append]
  rename_i p n
  obtain ⟨rfl, iv, h0, h1, h2, h3, h4, h5, h6, h7, h10, hx⟩ := hs
  obtain ⟨zq, zr, zt, zo, zc⟩ := iv_z iv
  have hop := iv.2.1.2.2.2.2.2
  have hop2 : ∀ i, (rA g 14 i).toInt = 0 ∨ (rA g 14 i).toInt = 1 := fun i => by rcases hop i with e | e <;> rw [e] <;> decide
  have e9 : 10 ≤ n.toInt → n.toInt ≤ 13 → (n - nI 9).toInt = n.toInt - 9 := fun a b => by
    rw [Int32.toInt_sub, nI_t (by omega), Int.bmod_eq_of_le (by omega) (by omega)]; rfl
  clear iv hop
  apply hR 60
  simp (maxSteps := 10000000) (disch := omega) only [hS, hn, sm_eqs, hf, ha, sm_b0, Int.reduceToNat, ↓reduceIte, Nat.reduceEqDiff, true_and, and_true, List.length_nil, List.length_cons, Nat.reduceAdd, Nat.reduceLeDiff, Nat.zero_le, false_implies, true_implies, not_true_eq_false, not_false_eq_true, implies_true, Nat.reduceSub, Nat.reduceMul, Nat.reduceDiv, reduceCtorEq, tn_clamp, nI_t, tn_nI, nI_add, pk_mul, rS_gS, rS_gA, rS_gL, rA_gS, rA_gA, rA_gL, rL_gS, rL_gA, rL_gL, and_self, and_false, false_and, if_true, if_false, true_or, or_true, or_false, false_or, sm_in, eqI, sI_s, Int32.toInt_zero, Int.natCast_zero, Int.natCast_one, Int.cast_ofNat_Int, Int.reduceEq, Int.reduceLT, Int.reduceLE, Int.reduceNeg, Int.reduceNe, ne_eq, n_up, g_up, e_cat, fr_A, fr_O, fr_P, fr_L, sp_X5_size, sp_X8_size, sp_X6_size, sp_X6_openCount, sp_X2_size, sp_X2_standingCount, sp_X8_countPlaced, sp_X8_countWhy, zq, zr, zt, zc]
  clear hn hf ha hS hR
  have e7 : ∀ j : Int, n.toInt = 7 + j → 0 ≤ j → j ≤ 2 → K (some (.int (nI (cnt (fun t => (whC g t : Int) == j) (nT g))))) g := fun j a b c => by
    have := h7 ⟨by omega, by omega⟩
    rw [show n.toInt - 7 = j by omega] at this; exact this
  exact ⟨fun h => ⟨fun a => hx (by omega), fun a => ⟨fun b => hx (by omega), fun b => by rw [e9 (by omega) (by omega)]; exact h10 ⟨by omega, by omega⟩⟩⟩, fun e => h0 (by omega), fun e => h1 (by omega), fun e => h2 (by omega), fun e => h3 (by omega), fun e => ⟨hop2, h4 (by omega)⟩, fun e => h5 (by omega), fun e => h6 (by omega), fun e => e7 0 (by omega) (by omega) (by omega), fun e => e7 1 (by omega) (by omega) (by omega), fun e => e7 2 (by omega) (by omega) (by omega)⟩
theorem ok_X9_count (l : Launch) : sm_spok l lay sm_mt 4 157 sp_X9_count := Or.inr (Or.inr (Or.inr ⟨by decide, by decide, by
  rw [mt_157]
  exact sm_method (T := TX9_) v_cok v_lok v_ka v_tok_X9 mok_X9_count rfl (by unfold sm_rk; simp) wf_X9_count (List.forall_mem_cons.mpr ⟨sm_spok_up (Nat.le_of_ble_eq_true rfl : 1 ≤ 3) (ok_X5_size l), List.forall_mem_cons.mpr ⟨sm_spok_up (Nat.le_of_ble_eq_true rfl : 1 ≤ 3) (ok_X8_size l), List.forall_mem_cons.mpr ⟨sm_spok_up (Nat.le_of_ble_eq_true rfl : 1 ≤ 3) (ok_X6_size l), List.forall_mem_cons.mpr ⟨sm_spok_up (Nat.le_of_ble_eq_true rfl : 1 ≤ 3) (ok_X6_openCount l), List.forall_mem_cons.mpr ⟨sm_spok_up (Nat.le_of_ble_eq_true rfl : 1 ≤ 3) (ok_X2_size l), List.forall_mem_cons.mpr ⟨sm_spok_up (Nat.le_of_ble_eq_true rfl : 1 ≤ 3) (ok_X2_standingCount l), List.forall_mem_cons.mpr ⟨sm_spok_up (Nat.le_of_ble_eq_true rfl : 3 ≤ 3) (ok_X8_countPlaced l), List.forall_mem_cons.mpr ⟨sm_spok_up (Nat.le_of_ble_eq_true rfl : 1 ≤ 3) (ok_X8_countWhy l), fun _ h => absurd h List.not_mem_nil⟩⟩⟩⟩⟩⟩⟩⟩) b_X9_count⟩))
