/-! The reference: a claim is given. -/
theorem iv_29 {c : sm_G} (h : iv c) (k : Nat) : iv (gA c 29 (upd (rA c 29) k (nI 1))) := by
  obtain ⟨iQ, iR, iT, iC⟩ := h
  refine ⟨iQ, iR, iT, iC.1, fun i => ?_, iC.2.2⟩
  show upd (rA c 29) k (nI 1) i = nI 0 ∨ upd (rA c 29) k (nI 1) i = nI 1
  by_cases e : i = k
  · rw [e, pk_us]; exact Or.inr rfl
  · rw [pk_un e]; exact iC.2.1 i
theorem CP_29 {c g : sm_G} (h : CP c g) {k : Nat} (hk : k < nC c) : CP (gA c 29 (upd (rA c 29) k (nI 1))) (gA g 83 (upd (rA g 83) k (nI 1))) := by
  obtain ⟨i, cq, cr, ct, d1, d2, d3, d4, d5, d6⟩ := h
  refine ⟨iv_29 i k, cq, cr, ct, d1, d2, d3, d4, fun j hj => ?_, fun j hj hj2 => ?_⟩
  · show upd (rA g 83) k (nI 1) j = upd (rA c 29) k (nI 1) j
    by_cases e : j = k
    · rw [e, pk_us, pk_us]
    · rw [pk_un e, pk_un e]; exact d5 j hj
  · show upd (rA g 83) k (nI 1) j = nI 0
    have hj : nC c ≤ j := hj
    rw [pk_un (by omega)]; exact d6 j hj hj2
theorem CP_giv {c g : sm_G} (h : CP c g) {k r : Nat} (hk : k < nC c) (hst : (rA c 28 k).toInt ≤ 1) (hr : r < nR c) (er : rA c 26 k = nI r) : CP (gA (fin c k (nI 4)) 14 (upd (rA c 14) r (nI 0))) (gA (gA g 82 (upd (rA g 82) k (nI 4))) 70 (upd (rA g 70) r (nI 1))) ∧ (∀ r', r' = nI r → givA c k = fins (gA (fin c k (nI 4)) 14 (upd (rA c 14) r (nI 0))) (fun j => (rA (gA (fin c k (nI 4)) 14 (upd (rA c 14) r (nI 0))) 26 j).toInt == r'.toInt) (nI 2) (nC (gA (fin c k (nI 4)) 14 (upd (rA c 14) r (nI 0))))) := by
  have q := CP_fin h hk hst (show 1 < (nI 4).toInt ∧ (nI 4).toInt ≤ 5 by decide)
  have a14 := fin_A c k (nI 4) 14 (by decide) (by decide)
  have a26 := fin_A c k (nI 4) 26 (by decide) (by decide)
  have hR : nR (fin c k (nI 4)) = nR c := by simp only [nR, fin_S]
  have hC : nC (fin c k (nI 4)) = nC c := by simp only [nC, fin_S]
  have q2 := CP_shut q (r := r) (by rw [hR]; exact hr)
  rw [a14] at q2
  have hn := (iv_z h.1).2.1.2
  refine ⟨q2, fun r' hr' => ?_⟩
  unfold givA
  rw [er, tn_nI (by omega), hr']
  show _ = fins _ (fun j => (rA (fin c k (nI 4)) 26 j).toInt == _) _ (nC (fin c k (nI 4)))
  rw [a26, hC]
theorem giv_go {c g : sm_G} (h : CP c g) {k r t : Nat} (hk : k < nC c) (hst : (rA c 28 k).toInt ≤ 1) (r1 : r < nR c) (r2 : rA c 26 k = nI r) (t1 : t < nT c) (t2 : rA c 27 k = nI t) (P : sm_G → Prop) (hP : ∀ h', mS g h' → CP (giveG c k) h' → P h') :
    ∃ c1, CP c1 (gA (gA g 82 (upd (rA g 82) k (nI 4))) 70 (upd (rA g 70) r (nI 1))) ∧ ∀ F : Nat → Int32, CP (fins c1 (fun k => (rA c1 26 k).toInt == (r : Int)) (nI 2) (nC c1)) (gA (gA (gA g 82 (upd (rA g 82) k (nI 4))) 70 (upd (rA g 70) r (nI 1))) 82 F) →
      (0 ≤ (r : Int) ∧ (r : Int) < 60) ∧ ∃ (c2 : sm_G) (f : Nat), f ≤ 60 ∧ cpW c2 (gS (gA (gA (gA g 82 (upd (rA g 82) k (nI 4))) 70 (upd (rA g 70) r (nI 1))) 82 F) 53 1000 (nI 0)) ∧ okT c2 (nI t) ∧ whyC c2 t = -1 ∧ nT c2 - nO c2 ≤ f ∧
        ∀ h, mS (gS (gA (gA (gA g 82 (upd (rA g 82) k (nI 4))) 70 (upd (rA g 70) r (nI 1))) 82 F) 53 1000 (nI 0)) h → cpW (goT f c2 t (rA c 13 r) (nI 1)) h → P h := by
  have hn2 := CP_n h
  obtain ⟨v1, v2⟩ := CP_giv h hk hst r1 r2
  obtain ⟨y1, y2, y3, y4, y5⟩ := giv_ok h.1 hk hst
  rw [t2, tn_nI (by omega)] at y2 y3
  have v3 := v2 (nI r) rfl
  rw [nI_t (by omega)] at v3
  refine ⟨_, v1, fun F hF => ⟨⟨by omega, by omega⟩, givA c k, 60, Nat.le_refl _, CP_cpW (by simp only [cp_fr]; rw [v3]; exact hF), ?_, y3, ?_, fun h' hm hw => hP h' (mS_tr (mS_S (mS_A (mS_A (mS_A (mS_rf g) (by omega)) (by omega)) (by omega))) hm) ?_⟩⟩
  · unfold okT; rw [nI_t (by omega)]; omega
  · have := (iv_z y1).2.2.1.2
    omega
  · have q := goT_CP y1 y2 y3 (by decide) hw
    unfold giveG
    rw [r2, t2, tn_nI (by omega), tn_nI (by omega)]; exact q
set_option maxHeartbeats 4000000 in
set_option maxRecDepth 100000 in
theorem giv_fin {c g : sm_G} {K : Option Value → sm_G → Prop} {J : Nat → sm_Lo → List Value → sm_G → Prop} {S : Nat → Nat → sm_Lo → List Value → sm_G → Prop} (hW : sm_walk lay NX10_give (sm_cl [(208, sp_X10_stands), (181, sp_X10_isFit c), (213, spE sp_X10_withdrawAll), (212, sp_X10_goesOut 60)]) none 0 K J S) (h : CP c g) {k r t : Nat} (hk : k < nC c) (hst : (rA c 28 k).toInt ≤ 1) (r1 : r < nR c) (r2 : rA c 26 k = nI r) (t1 : t < nT c) (t2 : rA c 27 k = nI t)
    (hP : ∀ h', mS g h' → CP (giveG c k) h' → K (some (.int (nI 0))) h') (n : Nat) (hn9 : 40 ≤ n) : S n 119 [some (.ref 53), some (.int (nI k)), some (.int (nI t)), some (.int (nI r)), some (.int (nI k))] [] (gS g 53 1000 (nI 0)) := by
  have hn := n_X10_give
  have hf := fd_all
  have ha := ar_all
  generalize NX10_give = N at hn hW
  generalize lay = L at hf ha hW
  obtain ⟨hS, hR⟩ := hW
  have hn2 := CP_n h
  have e82 := h.2.2.2.2.2.2.2.1 k hk
  have e69 := h.2.2.1.2.2.2.2.2.1 r (by (clear hf; omega))
  have go := giv_go h hk hst r1 r2 t1 t2 (fun h' => K (some (.int (nI 0))) h') hP
  clear hP
  obtain ⟨n, rfl⟩ : ∃ m, n = m + 40 := ⟨n - 40, by (clear hf; omega)⟩
  simp (maxSteps := 10000000) (disch := omega) only [hS, hn, sm_eqs, hf, ha, sm_b0, Int.reduceToNat, ↓reduceIte, Nat.reduceEqDiff, true_and, and_true, List.length_nil, List.length_cons, Nat.reduceAdd, Nat.reduceLeDiff, Nat.zero_le, false_implies, true_implies, not_true_eq_false, not_false_eq_true, implies_true, Nat.reduceSub, Nat.reduceMul, Nat.reduceDiv, reduceCtorEq, tn_clamp, nI_t, tn_nI, nI_add, pk_mul, rS_gS, rS_gA, rS_gL, rA_gS, rA_gA, rA_gL, rL_gS, rL_gA, rL_gL, and_self, and_false, false_and, if_true, if_false, true_or, or_true, or_false, false_or, sm_in, eqI, sI_s, Int32.toInt_zero, Int.natCast_zero, Int.natCast_one, Int.cast_ofNat_Int, Int.reduceEq, Int.reduceLT, Int.reduceLE, Int.reduceNeg, Int.reduceNe, ne_eq, n_up, g_up, e_cat, fr_A, fr_O, fr_P, fr_L, sp_X10_stands, sp_X10_isFit, sp_X10_withdrawAll, sp_X10_goesOut, spE, h, cp_fr, e69]
  clear hn hf ha hS hR
  refine ⟨by omega, by omega, ?_⟩
  first
  | with_reducible exact go
  | fail "G"
set_option maxHeartbeats 4000000 in
set_option maxRecDepth 100000 in
theorem giv_tail {c g : sm_G} {K : Option Value → sm_G → Prop} {J : Nat → sm_Lo → List Value → sm_G → Prop} {S : Nat → Nat → sm_Lo → List Value → sm_G → Prop} (hW : sm_walk lay NX10_give (sm_cl [(208, sp_X10_stands), (181, sp_X10_isFit c), (213, spE sp_X10_withdrawAll), (212, sp_X10_goesOut 60)]) none 0 K J S) (h : CP c g) {k r t : Nat} (hk : k < nC c) (hst : (rA c 28 k).toInt ≤ 1) (r1 : r < nR c) (r2 : rA c 26 k = nI r) (t1 : t < nT c) (t2 : rA c 27 k = nI t)
    (g6 : ¬ fitC c r t → ∀ h, mS g h → CP c h → K (some (.int (nI 4))) h)
    (g7 : fitC c r t → ((rA c 16 t).toInt = 3 ∧ rA c 29 k = nI 0 → ∀ h, mS g h → CP (gA c 29 (upd (rA c 29) k (nI 1))) h → K (some (.int (nI 5))) h) ∧ (¬ ((rA c 16 t).toInt = 3 ∧ rA c 29 k = nI 0) → ∀ h, mS g h → CP (giveG c k) h → K (some (.int (nI 0))) h)) :
    J 44 [some (.ref 53), some (.int (nI k)), some (.int (nI t)), some (.int (nI r)), some (.int (nI k))] [] (gS g 53 1000 (nI 0)) := by
  have hW0 := hW
  have hn := n_X10_give
  have hf := fd_all
  have ha := ar_all
  generalize NX10_give = N at hn hW
  generalize lay = L at hf ha hW
  obtain ⟨hS, hR⟩ := hW
  have hn2 := CP_n h
  have m0 : mS g (gS g 53 1000 (nI 0)) := mS_S (mS_rf g)
  have e82 := h.2.2.2.2.2.2.2.1 k hk
  by_cases hft : fitC c r t
  · have g7 := g7 hft
    clear g6
    have e60 := h.2.2.2.1.2.2.1 t (by omega)
    have e83 := h.2.2.2.2.2.2.2.2.1 k hk
    have h29 := h.1.2.2.2.2.1 k
    have e290 : (rA c 29 k = nI 0) = ((rA c 29 k).toInt = 0) := by rw [eqI]; rfl
    rw [e290] at g7
    have fin := fun e => giv_fin hW0 h hk hst r1 r2 t1 t2 (fun h' a b => g7.2 e h' a b)
    have g8 := fun a => g7.1 a (gS (gA g 83 (upd (rA g 83) k (nI 1))) 53 1000 (nI 0)) (mS_S (mS_A (mS_rf g) (by (clear hf; omega)))) (by have := CP_29 h hk; simp only [cp_fr]; exact this)
    clear g7 hW0
    obtain ⟨-, -, -, -, -, q6, q7, -, -, q10, q11, q12, q13, q14, ⟨r116, r117, r118, -, -⟩, -⟩ := hn
    have hn := And.intro q6 (And.intro q7 (And.intro q10 (And.intro q11 (And.intro q12 (And.intro q13 (And.intro q14 (And.intro r116 (And.intro r117 r118))))))))
    have f2 := fun e => fin e 82 (Nat.le_of_ble_eq_true rfl)
    have f3 := fun e => fin e 87 (Nat.le_of_ble_eq_true rfl)
    simp only [hS] at f2 f3
    clear fin
    apply hR 100
    simp (maxSteps := 10000000) (disch := omega) only [hS, hn, sm_eqs, hf, ha, sm_b0, Int.reduceToNat, ↓reduceIte, Nat.reduceEqDiff, true_and, and_true, List.length_nil, List.length_cons, Nat.reduceAdd, Nat.reduceLeDiff, Nat.zero_le, false_implies, true_implies, not_true_eq_false, not_false_eq_true, implies_true, Nat.reduceSub, Nat.reduceMul, Nat.reduceDiv, reduceCtorEq, tn_clamp, nI_t, tn_nI, nI_add, pk_mul, rS_gS, rS_gA, rS_gL, rA_gS, rA_gA, rA_gL, rL_gS, rL_gA, rL_gL, and_self, and_false, false_and, if_true, if_false, true_or, or_true, or_false, false_or, sm_in, eqI, sI_s, Int32.toInt_zero, Int.natCast_zero, Int.natCast_one, Int.cast_ofNat_Int, Int.reduceEq, Int.reduceLT, Int.reduceLE, Int.reduceNeg, Int.reduceNe, ne_eq, n_up, g_up, e_cat, fr_A, fr_O, fr_P, fr_L, sp_X10_isFit, h, cp_fr, hft, e60, e83]
    clear hn hf ha hS hR q6 q7 q10 q11 q12 q13 q14 r116 r117 r118
    refine ⟨fun a => absurd a (by omega), fun _ => ⟨by omega, by omega, by omega, fun a => ⟨by omega, fun b => ⟨by omega, ?_⟩, fun b => ?_⟩, fun a => ?_⟩⟩
    · first
      | with_reducible exact g8 ⟨a, b⟩
      | fail "G1"
    · have f2 := f2 (fun z => b z.2)
      first
      | with_reducible exact f2
      | fail "G2"
    · have f3 := f3 (fun z => a z.1)
      first
      | with_reducible exact f3
      | fail "G3"
  · have g6 := g6 hft _ m0 h
    clear g7
    apply hR 60
    simp (maxSteps := 10000000) (disch := omega) only [hS, hn, sm_eqs, hf, ha, sm_b0, Int.reduceToNat, ↓reduceIte, Nat.reduceEqDiff, true_and, and_true, List.length_nil, List.length_cons, Nat.reduceAdd, Nat.reduceLeDiff, Nat.zero_le, false_implies, true_implies, not_true_eq_false, not_false_eq_true, implies_true, Nat.reduceSub, Nat.reduceMul, Nat.reduceDiv, reduceCtorEq, tn_clamp, nI_t, tn_nI, nI_add, pk_mul, rS_gS, rS_gA, rS_gL, rA_gS, rA_gA, rA_gL, rL_gS, rL_gA, rL_gL, and_self, and_false, false_and, if_true, if_false, true_or, or_true, or_false, false_or, sm_in, eqI, sI_s, Int32.toInt_zero, Int.natCast_zero, Int.natCast_one, Int.cast_ofNat_Int, Int.reduceEq, Int.reduceLT, Int.reduceLE, Int.reduceNeg, Int.reduceNe, ne_eq, n_up, g_up, e_cat, fr_A, fr_O, fr_P, fr_L, sp_X10_isFit, h, cp_fr, hft]
    clear hn hf ha hS hR
    repeat' (first | (refine And.intro ?_ ?_) | (intro _))
    all_goals (first | with_reducible assumption | omega | (exfalso; omega))
set_option maxHeartbeats 4000000 in
set_option maxRecDepth 100000 in
theorem giv_loop {c g : sm_G} {K : Option Value → sm_G → Prop} {J : Nat → sm_Lo → List Value → sm_G → Prop} {S : Nat → Nat → sm_Lo → List Value → sm_G → Prop} (hW : sm_walk lay NX10_give (sm_cl [(208, sp_X10_stands), (181, sp_X10_isFit c), (213, spE sp_X10_withdrawAll), (212, sp_X10_goesOut 60)]) none 0 K J S) (h : CP c g) {k r t : Nat} (hk : k < nC c) (t1 : t < nT c)
    (g4 : (∃ d, d < k ∧ (rA c 28 d).toInt = 1 ∧ (rA c 27 d).toInt = (t : Int)) → ∀ h, mS g h → CP c h → K (some (.int (nI 3))) h)
    (tail : (∀ u, u < k → ¬ ((rA c 28 u).toInt = 1 ∧ (rA c 27 u).toInt = (t : Int))) → J 44 [some (.ref 53), some (.int (nI k)), some (.int (nI t)), some (.int (nI r)), some (.int (nI k))] [] (gS g 53 1000 (nI 0))) :
    ∀ m d, m = k - d → d ≤ k → (∀ u, u < d → ¬ ((rA c 28 u).toInt = 1 ∧ (rA c 27 u).toInt = (t : Int))) → J 44 [some (.ref 53), some (.int (nI k)), some (.int (nI t)), some (.int (nI r)), some (.int (nI d))] [] (gS g 53 1000 (nI 0)) := by
  have hn := n_X10_give
  have hf := fd_all
  have ha := ar_all
  generalize NX10_give = N at hn hW
  generalize lay = L at hf ha hW
  obtain ⟨hS, hR⟩ := hW
  have hn2 := CP_n h
  have m0 : mS g (gS g 53 1000 (nI 0)) := mS_S (mS_rf g)
  intro m
  induction m with
  | zero =>
    intro d hm hd hu
    obtain rfl : d = k := by (clear hf; omega)
    exact tail hu
  | succ m ih =>
    intro d hm hd hu
    have hdk : d < k := by (clear hf; omega)
    have ih := ih (d + 1) (by (clear hf; omega)) hdk
    have f81 := h.2.2.2.2.2.2.1 d (by (clear hf; omega))
    have f82 := h.2.2.2.2.2.2.2.1 d (by (clear hf; omega))
    have g4 := fun a b => g4 ⟨d, hdk, a, b⟩ (gS g 53 1000 (nI 0)) m0 h
    have ih := fun a => ih (fun u hu2 => by
      by_cases e : u = d
      · rw [e]; exact a
      · exact hu u (by (clear hf; omega)))
    clear tail
    apply hR 60
    simp (maxSteps := 10000000) (disch := omega) only [hS, hn, sm_eqs, hf, ha, sm_b0, Int.reduceToNat, ↓reduceIte, Nat.reduceEqDiff, true_and, and_true, List.length_nil, List.length_cons, Nat.reduceAdd, Nat.reduceLeDiff, Nat.zero_le, false_implies, true_implies, not_true_eq_false, not_false_eq_true, implies_true, Nat.reduceSub, Nat.reduceMul, Nat.reduceDiv, reduceCtorEq, tn_clamp, nI_t, tn_nI, nI_add, pk_mul, rS_gS, rS_gA, rS_gL, rA_gS, rA_gA, rA_gL, rL_gS, rL_gA, rL_gL, and_self, and_false, false_and, if_true, if_false, true_or, or_true, or_false, false_or, sm_in, eqI, sI_s, Int32.toInt_zero, Int.natCast_zero, Int.natCast_one, Int.cast_ofNat_Int, Int.reduceEq, Int.reduceLT, Int.reduceLE, Int.reduceNeg, Int.reduceNe, ne_eq, n_up, g_up, e_cat, fr_A, fr_O, fr_P, fr_L, f81, f82]
    clear hn hf ha hS hR
    repeat' (first | (refine And.intro ?_ ?_) | (intro _))
    all_goals (first | with_reducible assumption | omega | (exfalso; omega) | exact g4 (by assumption) (by assumption) | exact ih (fun x => absurd x.1 (by assumption)) | exact ih (fun x => absurd x.2 (by assumption)))
def sp_X10_give (c : sm_G) : sm_SP := fun as g K => match as with
  | [.ref p, .int k] => p = 53 ∧ CP c g ∧ (¬ stdC c k → ∀ h, mS g h → CP c h → K (some (.int (nI 1))) h) ∧ (stdC c k → ((rA c 28 (tn k)).toInt ≠ 1 → ∀ h, mS g h → CP c h → K (some (.int (nI 2))) h) ∧ ((rA c 28 (tn k)).toInt = 1 →
      ((∃ d, d < tn k ∧ (rA c 28 d).toInt = 1 ∧ (rA c 27 d).toInt = (rA c 27 (tn k)).toInt) → ∀ h, mS g h → CP c h → K (some (.int (nI 3))) h) ∧ ((¬ ∃ d, d < tn k ∧ (rA c 28 d).toInt = 1 ∧ (rA c 27 d).toInt = (rA c 27 (tn k)).toInt) →
      (¬ fitC c (tn (rA c 26 (tn k))) (tn (rA c 27 (tn k))) → ∀ h, mS g h → CP c h → K (some (.int (nI 4))) h) ∧ (fitC c (tn (rA c 26 (tn k))) (tn (rA c 27 (tn k))) →
      ((rA c 16 (tn (rA c 27 (tn k)))).toInt = 3 ∧ rA c 29 (tn k) = nI 0 → ∀ h, mS g h → CP (gA c 29 (upd (rA c 29) (tn k) (nI 1))) h → K (some (.int (nI 5))) h) ∧ (¬ ((rA c 16 (tn (rA c 27 (tn k)))).toInt = 3 ∧ rA c 29 (tn k) = nI 0) → ∀ h, mS g h → CP (giveG c (tn k)) h → K (some (.int (nI 0))) h)))))
  | _ => False
theorem wf_X10_give (c : sm_G) : sm_wf lay (yX10_give, cX10_give, 5, (some .int)) 2 false (sp_X10_give c) := by
  intro as g K h
  simp only [sp_X10_give] at h
  split at h
  · exact ⟨Nat.le_of_ble_eq_true rfl, by simp, rfl, fun _ => by obtain rfl := h.1; exact ⟨53, _, 10, [1, 1, 56, 57, 58, 59, 60, 61, 1, 1, 62, 63, 64, 65, 66, 67, 68, 69, 70, 71, 72, 73, 1, 74, 75, 76, 77, 1, 1, 78, 79, 1, 80, 1, 81, 1, 82, 83, 84, 85, 86, 1], TX10, 42, rfl, rfl, rfl⟩⟩
  · exact h.elim
set_option maxHeartbeats 4000000 in
set_option maxRecDepth 100000 in
theorem b_X10_give (c : sm_G) : sm_body lay NX10_give 5 0 (sm_cl [(208, sp_X10_stands), (181, sp_X10_isFit c), (213, spE sp_X10_withdrawAll), (212, sp_X10_goesOut 60)]) (sp_X10_give c) := by
  intro K J S hW as g hs
  have hW0 := hW
  have hn := n_X10_give
  have hf := fd_all
  have ha := ar_all
  generalize NX10_give = N at hn hW
  generalize lay = L at hf ha hW
  obtain ⟨hS, hR⟩ := hW
  simp only [sp_X10_give] at hs
  split at hs
  case h_2 => exact hs.elim
  simp only [e_args, sm_pad, List.length_cons, List.length_nil, Nat.reduceAdd, Nat.reduceSub, List.replicate_succ, List.replicate_zero, List.cons_append, List.nil_append]
  rename_i p k
  obtain ⟨rfl, h, h1, h2⟩ := hs
  have hn2 := CP_n h
  obtain ⟨z, zn⟩ := CP_zM h
  have zf : ∀ v, zM (gS g 53 1000 v) := fun v => z
  have nf : ∀ v, mC (gS g 53 1000 v) = nC c := fun v => zn
  have sf : ∀ v j, stM (gS g 53 1000 v) j = stM g j := fun v j => rfl
  have m0 : mS g (gS g 53 1000 (nI 0)) := mS_S (mS_rf g)
  by_cases hst : stdC c k
  · have h2 := h2 hst
    have hst2 := hst
    unfold stdC at hst2
    obtain ⟨k, hk, rfl⟩ := ok_nI hst2.1
    rw [tn_nI (by first | (clear hf; omega) | omega)] at h2 hst2
    have hs := (CP_stM h hk).mpr hst2.2
    obtain ⟨⟨r, r1, r2⟩, ⟨t, t1, t2⟩, x3, x4, x5⟩ := h.1.2.2.2.2.2.1 k hk
    have e80 := h.2.2.2.2.2.1 k hk
    have e81 := h.2.2.2.2.2.2.1 k hk
    have e82 := h.2.2.2.2.2.2.2.1 k hk
    rw [r2] at e80; rw [t2] at e81
    obtain ⟨g2, g3⟩ := h2
    clear h1
    by_cases hp : (rA c 28 k).toInt = 1
    · have g3 := g3 hp
      rw [r2, t2, tn_nI (by first | (clear hf; omega) | omega), tn_nI (by first | (clear hf; omega) | omega), nI_t (by first | (clear hf; omega) | omega)] at g3
      obtain ⟨g4, g5⟩ := g3
      clear g2
      have h0 := giv_loop hW0 h hk t1 g4 (fun hno => giv_tail hW0 h hk hst2.2 r1 r2 t1 t2 (g5 (fun ⟨d, d1, d2, d3⟩ => hno d d1 ⟨d2, d3⟩)).1 (g5 (fun ⟨d, d1, d2, d3⟩ => hno d d1 ⟨d2, d3⟩)).2) _ 0 rfl (Nat.zero_le _) (fun u hu => absurd hu (Nat.not_lt_zero u))
      clear g4 g5 hW0
      apply hR 60
      simp (maxSteps := 10000000) (disch := omega) only [hS, hn, sm_eqs, hf, ha, sm_b0, Int.reduceToNat, ↓reduceIte, Nat.reduceEqDiff, true_and, and_true, List.length_nil, List.length_cons, Nat.reduceAdd, Nat.reduceLeDiff, Nat.zero_le, false_implies, true_implies, not_true_eq_false, not_false_eq_true, implies_true, Nat.reduceSub, Nat.reduceMul, Nat.reduceDiv, reduceCtorEq, tn_clamp, nI_t, tn_nI, nI_add, pk_mul, rS_gS, rS_gA, rS_gL, rA_gS, rA_gA, rA_gL, rL_gS, rL_gA, rL_gL, and_self, and_false, false_and, if_true, if_false, true_or, or_true, or_false, false_or, sm_in, eqI, sI_s, Int32.toInt_zero, Int.natCast_zero, Int.natCast_one, Int.cast_ofNat_Int, Int.reduceEq, Int.reduceLT, Int.reduceLE, Int.reduceNeg, Int.reduceNe, ne_eq, n_up, g_up, e_cat, fr_A, fr_O, fr_P, fr_L, sp_X10_stands, sp_X10_isFit, sp_X10_withdrawAll, sp_X10_goesOut, spE, zf, nf, sf, hs, e80, e81, e82, hp]
      clear hn hf ha hS hR
      repeat' (first | (refine And.intro ?_ ?_) | (intro _))
      all_goals (first | with_reducible assumption | omega | (exfalso; omega))
    · have g2 := g2 hp _ m0 h
      clear g3
      apply hR 60
      simp (maxSteps := 10000000) (disch := omega) only [hS, hn, sm_eqs, hf, ha, sm_b0, Int.reduceToNat, ↓reduceIte, Nat.reduceEqDiff, true_and, and_true, List.length_nil, List.length_cons, Nat.reduceAdd, Nat.reduceLeDiff, Nat.zero_le, false_implies, true_implies, not_true_eq_false, not_false_eq_true, implies_true, Nat.reduceSub, Nat.reduceMul, Nat.reduceDiv, reduceCtorEq, tn_clamp, nI_t, tn_nI, nI_add, pk_mul, rS_gS, rS_gA, rS_gL, rA_gS, rA_gA, rA_gL, rL_gS, rL_gA, rL_gL, and_self, and_false, false_and, if_true, if_false, true_or, or_true, or_false, false_or, sm_in, eqI, sI_s, Int32.toInt_zero, Int.natCast_zero, Int.natCast_one, Int.cast_ofNat_Int, Int.reduceEq, Int.reduceLT, Int.reduceLE, Int.reduceNeg, Int.reduceNe, ne_eq, n_up, g_up, e_cat, fr_A, fr_O, fr_P, fr_L, sp_X10_stands, sp_X10_isFit, sp_X10_withdrawAll, sp_X10_goesOut, spE, zf, nf, sf, hs, e82, hp]
      clear hn hf ha hS hR
      repeat' (first | (refine And.intro ?_ ?_) | (intro _))
      all_goals (first | with_reducible assumption | omega | (exfalso; omega))
  · have h1 := h1 hst _ m0 h
    have hno : ¬ (0 ≤ k.toInt ∧ k.toInt < (nC c : Int) ∧ stM g (tn k)) := fun ⟨a, b, d⟩ => hst (by
      unfold stdC okC
      exact ⟨⟨a, b⟩, (CP_stM h (by unfold tn; omega)).mp d⟩)
    clear h2
    apply hR 60
    simp (maxSteps := 10000000) (disch := omega) only [hS, hn, sm_eqs, hf, ha, sm_b0, Int.reduceToNat, ↓reduceIte, Nat.reduceEqDiff, true_and, and_true, List.length_nil, List.length_cons, Nat.reduceAdd, Nat.reduceLeDiff, Nat.zero_le, false_implies, true_implies, not_true_eq_false, not_false_eq_true, implies_true, Nat.reduceSub, Nat.reduceMul, Nat.reduceDiv, reduceCtorEq, tn_clamp, nI_t, tn_nI, nI_add, pk_mul, rS_gS, rS_gA, rS_gL, rA_gS, rA_gA, rA_gL, rL_gS, rL_gA, rL_gL, and_self, and_false, false_and, if_true, if_false, true_or, or_true, or_false, false_or, sm_in, eqI, sI_s, Int32.toInt_zero, Int.natCast_zero, Int.natCast_one, Int.cast_ofNat_Int, Int.reduceEq, Int.reduceLT, Int.reduceLE, Int.reduceNeg, Int.reduceNe, ne_eq, n_up, g_up, e_cat, fr_A, fr_O, fr_P, fr_L, sp_X10_stands, sp_X10_isFit, sp_X10_withdrawAll, sp_X10_goesOut, spE, zf, nf, sf]
    clear hn hf ha hS hR
    exact ⟨fun a => absurd a hno, fun _ => h1⟩
theorem ok_X10_give (l : Launch) (c : sm_G) : sm_spok l lay sm_mt 65 214 (sp_X10_give c) := Or.inr (Or.inr (Or.inr ⟨by decide, by decide, by
  rw [mt_214]
  exact sm_method (T := TX10_) v_cok v_lok v_ka v_tok_X10 mok_X10_give rfl (by unfold sm_rk; simp) (wf_X10_give c) (List.forall_mem_cons.mpr ⟨sm_spok_up (Nat.le_of_ble_eq_true rfl : 2 ≤ 64) (ok_X10_stands l), List.forall_mem_cons.mpr ⟨sm_spok_up (Nat.le_of_ble_eq_true rfl : 3 ≤ 64) (ok_X10_isFit l c), List.forall_mem_cons.mpr ⟨sm_spok_up (Nat.le_of_ble_eq_true rfl : 3 ≤ 64) (ok_X10_withdrawAll_E l), List.forall_mem_cons.mpr ⟨sm_spok_up (Nat.le_of_ble_eq_true rfl : 64 ≤ 64) (ok_X10_goesOut l), fun _ h => absurd h List.not_mem_nil⟩⟩⟩⟩) (b_X10_give c)⟩))
