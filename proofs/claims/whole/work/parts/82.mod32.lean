/-! The reference: a claim is given. -/
theorem iv_29 {c : sm_G} (h : iv c) (k : Nat) : iv (gA c 29 (upd (rA c 29) k (nI 1))) := by
  obtain ⟨iQ, iR, iT, iC⟩ := h
  refine ⟨iQ, iR, iT, iC.1, fun i => ?_, iC.2.2⟩
  show upd (rA c 29) k (nI 1) i = nI 0 ∨ upd (rA c 29) k (nI 1) i = nI 1
  by_cases e : i = k
  · rw [e, pk_us]; exact Or.inr rfl
  · rw [pk_un e]; exact iC.2.1 i
theorem CP_29 {c g : sm_G} (h : CP c g) {k : Nat} (hk : k < nC c) : CP (gA c 29 (upd (rA c 29) k (nI 1))) (gA g 83 (upd (rA g 83) k (nI 1))) := by
  obtain ⟨i, cq, cr, ct, d1, d2, d3, d4, d5, d6⟩ := h
  refine ⟨iv_29 i k, cq, cr, ct, d1, d2, d3, d4, fun j hj => ?_, fun j hj hj2 => ?_⟩
  · show upd (rA g 83) k (nI 1) j = upd (rA c 29) k (nI 1) j
    by_cases e : j = k
    · rw [e, pk_us, pk_us]
    · rw [pk_un e, pk_un e]; exact d5 j hj
  · show upd (rA g 83) k (nI 1) j = nI 0
    have hj : nC c ≤ j := hj
    rw [pk_un (by omega)]; exact d6 j hj hj2
theorem CP_giv {c g : sm_G} (h : CP c g) {k r : Nat} (hk : k < nC c) (hst : (rA c 28 k).toInt ≤ 1) (hr : r < nR c) (er : rA c 26 k = nI r) : CP (gA (fin c k (nI 4)) 14 (upd (rA c 14) r (nI 0))) (gA (gA g 82 (upd (rA g 82) k (nI 4))) 70 (upd (rA g 70) r (nI 1))) ∧ (∀ r', r' = nI r → givA c k = fins (gA (fin c k (nI 4)) 14 (upd (rA c 14) r (nI 0))) (fun j => (rA (gA (fin c k (nI 4)) 14 (upd (rA c 14) r (nI 0))) 26 j).toInt == r'.toInt) (nI 2) (nC (gA (fin c k (nI 4)) 14 (upd (rA c 14) r (nI 0))))) := by
  have q := CP_fin h hk hst (show 1 < (nI 4).toInt ∧ (nI 4).toInt ≤ 5 by decide)
  have a14 := fin_A c k (nI 4) 14 (by decide) (by decide)
  have a26 := fin_A c k (nI 4) 26 (by decide) (by decide)
  have hR : nR (fin c k (nI 4)) = nR c := by simp only [nR, fin_S]
  have hC : nC (fin c k (nI 4)) = nC c := by simp only [nC, fin_S]
  have q2 := CP_shut q (r := r) (by rw [hR]; exact hr)
  rw [a14] at q2
  have hn := (iv_z h.1).2.1.2
  refine ⟨q2, fun r' hr' => ?_⟩
  unfold givA
  rw [er, tn_nI (by omega), hr']
  show _ = fins _ (fun j => (rA (fin c k (nI 4)) 26 j).toInt == _) _ (nC (fin c k (nI 4)))
  rw [a26, hC]
theorem giv_go {c g : sm_G} (h : CP c g) {k r t : Nat} (hk : k < nC c) (hst : (rA c 28 k).toInt ≤ 1) (r1 : r < nR c) (r2 : rA c 26 k = nI r) (t1 : t < nT c) (t2 : rA c 27 k = nI t) (P : sm_G → Prop) (hP : ∀ h', mS g h' → CP (giveG c k) h' → P h') :
    ∃ c1, CP c1 (gA (gA g 82 (upd (rA g 82) k (nI 4))) 70 (upd (rA g 70) r (nI 1))) ∧ ∀ F : Nat → Int32, CP (fins c1 (fun k => (rA c1 26 k).toInt == (r : Int)) (nI 2) (nC c1)) (gA (gA (gA g 82 (upd (rA g 82) k (nI 4))) 70 (upd (rA g 70) r (nI 1))) 82 F) →
      (0 ≤ (r : Int) ∧ (r : Int) < 60) ∧ ∃ (c2 : sm_G) (f : Nat), f ≤ 60 ∧ cpW c2 (gS (gA (gA (gA g 82 (upd (rA g 82) k (nI 4))) 70 (upd (rA g 70) r (nI 1))) 82 F) 53 1000 (nI 0)) ∧ okT c2 (nI t) ∧ whyC c2 t = -1 ∧ nT c2 - nO c2 ≤ f ∧
        ∀ h, mS (gS (gA (gA (gA g 82 (upd (rA g 82) k (nI 4))) 70 (upd (rA g 70) r (nI 1))) 82 F) 53 1000 (nI 0)) h → cpW (goT f c2 t (rA c 13 r) (nI 1)) h → P h := by
  have hn2 := CP_n h
  obtain ⟨v1, v2⟩ := CP_giv h hk hst r1 r2
  obtain ⟨y1, y2, y3, y4, y5⟩ := giv_ok h.1 hk hst
  rw [t2, tn_nI (by omega)] at y2 y3
  have v3 := v2 (nI r) rfl
  rw [nI_t (by omega)] at v3
  refine ⟨_, v1, fun F hF => ⟨⟨by omega, by omega⟩, givA c k, 60, Nat.le_refl _, CP_cpW (by simp only [cp_fr]; rw [v3]; exact hF), ?_, y3, ?_, fun h' hm hw => hP h' (mS_tr (mS_S (mS_A (mS_A (mS_A (mS_rf g) (by omega)) (by omega)) (by omega))) hm) ?_⟩⟩
  · unfold okT; rw [nI_t (by omega)]; omega
  · have := (iv_z y1).2.2.1.2
    omega
  · have q := goT_CP y1 y2 y3 (by decide) hw
    unfold giveG
    rw [r2, t2, tn_nI (by omega), tn_nI (by omega)]; exact q
def sp_X10_give (c : sm_G) : sm_SP := fun as g K => match as with
  | [.ref p, .int k] => p = 53 ∧ CP c g ∧ (¬ stdC c k → ∀ h, mS g h → CP c h → K (some (.int (nI 1))) h) ∧ (stdC c k → ((rA c 28 (tn k)).toInt ≠ 1 → ∀ h, mS g h → CP c h → K (some (.int (nI 2))) h) ∧ ((rA c 28 (tn k)).toInt = 1 →
      ((∃ d, d < tn k ∧ (rA c 28 d).toInt = 1 ∧ (rA c 27 d).toInt = (rA c 27 (tn k)).toInt) → ∀ h, mS g h → CP c h → K (some (.int (nI 3))) h) ∧ ((¬ ∃ d, d < tn k ∧ (rA c 28 d).toInt = 1 ∧ (rA c 27 d).toInt = (rA c 27 (tn k)).toInt) →
      (¬ fitC c (tn (rA c 26 (tn k))) (tn (rA c 27 (tn k))) → ∀ h, mS g h → CP c h → K (some (.int (nI 4))) h) ∧ (fitC c (tn (rA c 26 (tn k))) (tn (rA c 27 (tn k))) →
      ((rA c 16 (tn (rA c 27 (tn k)))).toInt = 3 ∧ rA c 29 (tn k) = nI 0 → ∀ h, mS g h → CP (gA c 29 (upd (rA c 29) (tn k) (nI 1))) h → K (some (.int (nI 5))) h) ∧ (¬ ((rA c 16 (tn (rA c 27 (tn k)))).toInt = 3 ∧ rA c 29 (tn k) = nI 0) → ∀ h, mS g h → CP (giveG c (tn k)) h → K (some (.int (nI 0))) h)))))
  | _ => False
theorem wf_X10_give (c : sm_G) : sm_wf lay (yX10_give, cX10_give, 5, (some .int)) 2 false (sp_X10_give c) := by
  intro as g K h
  simp only [sp_X10_give] at h
  split at h
  · exact ⟨Nat.le_of_ble_eq_true rfl, by simp, rfl, fun _ => by obtain rfl := h.1; exact ⟨53, _, 10, [1, 1, 56, 57, 58, 59, 60, 61, 1, 1, 62, 63, 64, 65, 66, 67, 68, 69, 70, 71, 72, 73, 1, 74, 75, 76, 77, 1, 1, 78, 79, 1, 80, 1, 81, 1, 82, 83, 84, 85, 86, 1], TX10, 42, rfl, rfl, rfl⟩⟩
  · exact h.elim
set_option maxHeartbeats 4000000 in
set_option maxRecDepth 100000 in
theorem b_X10_give (c : sm_G) : sm_body lay NX10_give 5 0 (sm_cl [(207, sp_X10_stands), (180, sp_X10_isFit c), (212, spE sp_X10_withdrawAll), (211, sp_X10_goesOut 60)]) (sp_X10_give c) := by
  intro K J S hW as g hs
  have hn := n_X10_give
  have hf := fd_all
  have ha := ar_all
  generalize NX10_give = N at hn hW
  generalize lay = L at hf ha hW
  obtain ⟨hS, hR⟩ := hW
  simp only [sp_X10_give] at hs
  split at hs
  case h_2 => exact hs.elim
  simp only [e_args, sm_pad, List.length_cons, List.length_nil, Nat.reduceAdd, Nat.reduceSub, List.replicate_succ, List.replicate_zero, List.cons_append, List.nil_append]
  sorry
theorem ok_X10_give (l : Launch) (c : sm_G) : sm_spok l lay sm_mt 65 213 (sp_X10_give c) := Or.inr (Or.inr (Or.inr ⟨by decide, by decide, by
  rw [mt_213]
  exact sm_method (T := TX10_) v_cok v_lok v_ka v_tok_X10 mok_X10_give rfl (by unfold sm_rk; simp) (wf_X10_give c) (List.forall_mem_cons.mpr ⟨sm_spok_up (Nat.le_of_ble_eq_true rfl : 2 ≤ 64) (ok_X10_stands l), List.forall_mem_cons.mpr ⟨sm_spok_up (Nat.le_of_ble_eq_true rfl : 3 ≤ 64) (ok_X10_isFit l c), List.forall_mem_cons.mpr ⟨sm_spok_up (Nat.le_of_ble_eq_true rfl : 3 ≤ 64) (ok_X10_withdrawAll_E l), List.forall_mem_cons.mpr ⟨sm_spok_up (Nat.le_of_ble_eq_true rfl : 64 ≤ 64) (ok_X10_goesOut l), fun _ h => absurd h List.not_mem_nil⟩⟩⟩⟩) (b_X10_give c)⟩))
