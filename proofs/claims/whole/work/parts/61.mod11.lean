/-! The reference: claims. -/
def mC (g : sm_G) : Nat := tn (rS g 53 1035)
def zM (g : sm_G) : Prop := rS g 53 1035 = nI (mC g) ∧ mC g ≤ 100
def stM (g : sm_G) (k : Nat) : Prop := (rA g 82 k).toInt = 0 ∨ (rA g 82 k).toInt = 1
def sp_X10_stands : sm_SP := fun as g K => match as with
  | [.ref p, .int k] => p = 53 ∧ zM g ∧ (0 ≤ k.toInt ∧ k.toInt < mC g ∧ stM g (tn k) → K (some (.int (nI 1))) g) ∧ (¬ (0 ≤ k.toInt ∧ k.toInt < mC g ∧ stM g (tn k)) → K (some (.int (nI 0))) g)
  | _ => False
theorem wf_X10_stands : sm_wf lay (yX10_stands, cX10_stands, 2, (some .boolean)) 2 false sp_X10_stands := by
  intro as g K h
  simp only [sp_X10_stands] at h
  split at h
  · exact ⟨Nat.le_of_ble_eq_true rfl, by simp, rfl, fun _ => by obtain rfl := h.1; exact ⟨53, _, 10, [1, 1, 56, 57, 58, 59, 60, 61, 1, 1, 62, 63, 64, 65, 66, 67, 68, 69, 70, 71, 72, 73, 1, 74, 75, 76, 77, 1, 1, 78, 79, 1, 80, 1, 81, 1, 82, 83, 84, 85, 86, 1], TX10, 42, rfl, rfl, rfl⟩⟩
  · exact h.elim
set_option maxHeartbeats 4000000 in
set_option maxRecDepth 100000 in
theorem b_X10_stands : sm_body lay NX10_stands 2 1 (sm_cl [(161, sp_X10_in)]) sp_X10_stands := by
  intro K J S hW as g hs
  have hn := n_X10_stands
  have hf := fd_all
  have ha := ar_all
  generalize NX10_stands = N at hn hW
  generalize lay = L at hf ha hW
  obtain ⟨hS, hR⟩ := hW
  simp only [sp_X10_stands] at hs
  split at hs
  case h_2 => exact hs.elim
  simp only [e_args, sm_pad, List.length_cons, List.length_nil, Nat.reduceAdd, Nat.reduceSub, List.replicate_succ, List.replicate_zero, List.cons_append, List.nil_append]
  rename_i p k
  obtain ⟨rfl, ⟨z1, z2⟩, h1, h2⟩ := hs
  generalize mC g = n at *
  unfold stM at h1 h2
  apply hR 40
  simp (maxSteps := 10000000) (disch := omega) only [hS, hn, sm_eqs, hf, ha, sm_b0, Int.reduceToNat, ↓reduceIte, Nat.reduceEqDiff, true_and, and_true, List.length_nil, List.length_cons, Nat.reduceAdd, Nat.reduceLeDiff, Nat.zero_le, false_implies, true_implies, not_true_eq_false, not_false_eq_true, implies_true, Nat.reduceSub, Nat.reduceMul, Nat.reduceDiv, reduceCtorEq, tn_clamp, nI_t, tn_nI, nI_add, pk_mul, rS_gS, rS_gA, rS_gL, rA_gS, rA_gA, rA_gL, rL_gS, rL_gA, rL_gL, and_self, and_false, false_and, if_true, if_false, true_or, or_true, or_false, false_or, sm_in, eqI, sI_s, Int32.toInt_zero, Int.natCast_zero, Int.natCast_one, Int.cast_ofNat_Int, Int.reduceEq, Int.reduceLT, Int.reduceLE, Int.reduceNeg, Int.reduceNe, ne_eq, n_up, g_up, e_cat, fr_A, fr_O, fr_P, fr_L, sp_X10_in, z1, nI_m1]
  clear hn hf ha hS hR
  repeat' (first | (with_reducible refine And.intro ?_ ?_) | (with_reducible intro _))
  all_goals (first | with_reducible assumption | omega | (exfalso; omega) | grind)
theorem ok_X10_stands (l : Launch) : sm_spok l lay sm_mt 2 208 sp_X10_stands := Or.inr (Or.inr (Or.inr ⟨by decide, by decide, by
  rw [mt_208]
  exact sm_method (T := TX10_) v_cok v_lok v_ka v_tok_X10 mok_X10_stands rfl (by unfold sm_rk; simp) wf_X10_stands (List.forall_mem_cons.mpr ⟨sm_spok_up (Nat.le_of_ble_eq_true rfl : 1 ≤ 1) (ok_X10_in l), fun _ h => absurd h List.not_mem_nil⟩) b_X10_stands⟩))
def sp_X10_standing : sm_SP := fun as g K => match as with
  | [.ref p, .int t] => p = 53 ∧ zM g ∧ K (some (.int (nI (cnt (fun k => dc (stM g k ∧ (rA g 81 k).toInt = t.toInt)) (mC g))))) g
  | _ => False
theorem wf_X10_standing : sm_wf lay (yX10_standing, cX10_standing, 4, (some .int)) 2 false sp_X10_standing := by
  intro as g K h
  simp only [sp_X10_standing] at h
  split at h
  · exact ⟨Nat.le_of_ble_eq_true rfl, by simp, rfl, fun _ => by obtain rfl := h.1; exact ⟨53, _, 10, [1, 1, 56, 57, 58, 59, 60, 61, 1, 1, 62, 63, 64, 65, 66, 67, 68, 69, 70, 71, 72, 73, 1, 74, 75, 76, 77, 1, 1, 78, 79, 1, 80, 1, 81, 1, 82, 83, 84, 85, 86, 1], TX10, 42, rfl, rfl, rfl⟩⟩
  · exact h.elim
set_option maxHeartbeats 4000000 in
set_option maxRecDepth 100000 in
theorem b_X10_standing : sm_body lay NX10_standing 4 0 (sm_cl [(208, sp_X10_stands)]) sp_X10_standing := by
  intro K J S hW as g hs
  have hn := n_X10_standing
  have hf := fd_all
  have ha := ar_all
  generalize NX10_standing = N at hn hW
  generalize lay = L at hf ha hW
  obtain ⟨hS, hR⟩ := hW
  simp only [sp_X10_standing] at hs
  split at hs
  case h_2 => exact hs.elim
  simp only [e_args, sm_pad, List.length_cons, List.length_nil, Nat.reduceAdd, Nat.reduceSub, List.replicate_succ, List.replicate_zero, List.cons_append, List.nil_append]
  rename_i p t
  obtain ⟨rfl, z, hs⟩ := hs
  have z2 := z.2
  have loop : ∀ m k, m = mC g - k → k ≤ mC g → ∀ n, n = cnt (fun k => dc (stM g k ∧ (rA g 81 k).toInt = t.toInt)) k → J 4 [some (.ref 53), some (.int t), some (.int (nI n)), some (.int (nI k))] [] g := by
    intro m
    induction m with
    | zero =>
      intro k hm hk n hn9
      obtain rfl : k = mC g := by omega
      rw [← hn9] at hs
      apply hR 60
      simp (maxSteps := 10000000) (disch := omega) only [hS, hn, sm_eqs, hf, ha, sm_b0, Int.reduceToNat, ↓reduceIte, Nat.reduceEqDiff, true_and, and_true, List.length_nil, List.length_cons, Nat.reduceAdd, Nat.reduceLeDiff, Nat.zero_le, false_implies, true_implies, not_true_eq_false, not_false_eq_true, implies_true, Nat.reduceSub, Nat.reduceMul, Nat.reduceDiv, reduceCtorEq, tn_clamp, nI_t, tn_nI, nI_add, pk_mul, rS_gS, rS_gA, rS_gL, rA_gS, rA_gA, rA_gL, rL_gS, rL_gA, rL_gL, and_self, and_false, false_and, if_true, if_false, true_or, or_true, or_false, false_or, sm_in, eqI, sI_s, Int32.toInt_zero, Int.natCast_zero, Int.natCast_one, Int.cast_ofNat_Int, Int.reduceEq, Int.reduceLT, Int.reduceLE, Int.reduceNeg, Int.reduceNe, ne_eq, n_up, g_up, e_cat, fr_A, fr_O, fr_P, fr_L, sp_X10_stands, z.1]
      repeat' (first | (refine And.intro ?_ ?_) | (intro _))
      all_goals (first | with_reducible assumption | omega | (exfalso; omega))
    | succ m ih =>
      intro k hm hk n hn9
      have e1 : stM g k → (rA g 81 k).toInt = t.toInt → J 4 [some (.ref 53), some (.int t), some (.int (nI (n + 1))), some (.int (nI (k + 1)))] [] g := fun a b => ih (k + 1) (by omega) (by omega) _ (by show _ = cnt (fun k => dc (stM g k ∧ (rA g 81 k).toInt = t.toInt)) k + (if dc (stM g k ∧ (rA g 81 k).toInt = t.toInt) = true then 1 else 0); rw [if_pos (dc_t.mpr ⟨a, b⟩), hn9])
      have e0 : ¬ (stM g k ∧ (rA g 81 k).toInt = t.toInt) → J 4 [some (.ref 53), some (.int t), some (.int (nI (n + 0))), some (.int (nI (k + 1)))] [] g := fun a => ih (k + 1) (by omega) (by omega) _ (by show _ = cnt (fun k => dc (stM g k ∧ (rA g 81 k).toInt = t.toInt)) k + (if dc (stM g k ∧ (rA g 81 k).toInt = t.toInt) = true then 1 else 0); rw [if_neg (fun b => a (dc_t.mp b)), hn9])
      clear ih hs
      apply hR 60
      simp (maxSteps := 10000000) (disch := omega) only [hS, hn, sm_eqs, hf, ha, sm_b0, Int.reduceToNat, ↓reduceIte, Nat.reduceEqDiff, true_and, and_true, List.length_nil, List.length_cons, Nat.reduceAdd, Nat.reduceLeDiff, Nat.zero_le, false_implies, true_implies, not_true_eq_false, not_false_eq_true, implies_true, Nat.reduceSub, Nat.reduceMul, Nat.reduceDiv, reduceCtorEq, tn_clamp, nI_t, tn_nI, nI_add, pk_mul, rS_gS, rS_gA, rS_gL, rA_gS, rA_gA, rA_gL, rL_gS, rL_gA, rL_gL, and_self, and_false, false_and, if_true, if_false, true_or, or_true, or_false, false_or, sm_in, eqI, sI_s, Int32.toInt_zero, Int.natCast_zero, Int.natCast_one, Int.cast_ofNat_Int, Int.reduceEq, Int.reduceLT, Int.reduceLE, Int.reduceNeg, Int.reduceNe, ne_eq, n_up, g_up, e_cat, fr_A, fr_O, fr_P, fr_L, sp_X10_stands, z, z.1]
      clear hn hf ha hS hR
      have hk2 : 0 ≤ (k : Int) ∧ (k : Int) < mC g := by omega
      by_cases a : stM g k
      · by_cases b : (rA g 81 k).toInt = t.toInt
        · have e1 := e1 a b
          grind
        · have e0 := e0 (fun h => b h.2)
          grind
      · have e0 := e0 (fun h => a h.1)
        grind
  have h0 := loop _ 0 rfl (Nat.zero_le _) 0 rfl
  apply hR 40
  simp (maxSteps := 10000000) (disch := omega) only [hS, hn, sm_eqs, hf, ha, sm_b0, Int.reduceToNat, ↓reduceIte, Nat.reduceEqDiff, true_and, and_true, List.length_nil, List.length_cons, Nat.reduceAdd, Nat.reduceLeDiff, Nat.zero_le, false_implies, true_implies, not_true_eq_false, not_false_eq_true, implies_true, Nat.reduceSub, Nat.reduceMul, Nat.reduceDiv, reduceCtorEq, tn_clamp, nI_t, tn_nI, nI_add, pk_mul, rS_gS, rS_gA, rS_gL, rA_gS, rA_gA, rA_gL, rL_gS, rL_gA, rL_gL, and_self, and_false, false_and, if_true, if_false, true_or, or_true, or_false, false_or, sm_in, eqI, sI_s, Int32.toInt_zero, Int.natCast_zero, Int.natCast_one, Int.cast_ofNat_Int, Int.reduceEq, Int.reduceLT, Int.reduceLE, Int.reduceNeg, Int.reduceNe, ne_eq, n_up, g_up, e_cat, fr_A, fr_O, fr_P, fr_L, sp_X10_stands]
  exact h0
theorem ok_X10_standing (l : Launch) : sm_spok l lay sm_mt 3 209 sp_X10_standing := Or.inr (Or.inr (Or.inr ⟨by decide, by decide, by
  rw [mt_209]
  exact sm_method (T := TX10_) v_cok v_lok v_ka v_tok_X10 mok_X10_standing rfl (by unfold sm_rk; simp) wf_X10_standing (List.forall_mem_cons.mpr ⟨sm_spok_up (Nat.le_of_ble_eq_true rfl : 2 ≤ 2) (ok_X10_stands l), fun _ h => absurd h List.not_mem_nil⟩) b_X10_standing⟩))
theorem CP_zM {c g : sm_G} (h : CP c g) : zM g ∧ mC g = nC c := by
  have e := h.2.2.2.2.1
  have hn := CP_n h
  have : mC g = nC c := by unfold mC; rw [e, tn_nI (by omega)]
  exact ⟨⟨by rw [this]; exact e, by omega⟩, this⟩
theorem CP_stM {c g : sm_G} (h : CP c g) {k : Nat} (hk : k < nC c) : stM g k ↔ (rA c 28 k).toInt ≤ 1 := by
  have e := h.2.2.2.2.2.2.2.1 k hk
  have := (h.1.2.2.2.2.2.1 k hk).2.2.1
  unfold stM; rw [e]; omega
theorem CP_stand {c g : sm_G} (h : CP c g) {t : Nat} (ht : t < 60) : nI (cnt (fun k => dc (stM g k ∧ (rA g 81 k).toInt = (t : Int))) (mC g)) = rA c 30 t := by
  rw [h.1.2.2.2.2.2.2 t ht, (CP_zM h).2]
  refine congrArg nI (cnt_congr _ (fun k hk => ?_))
  show dc _ = dc _
  have e := h.2.2.2.2.2.2.1 k hk
  rw [e]
  have := CP_stM h hk
  by_cases a : stM g k ∧ (rA c 27 k).toInt = (t : Int)
  · rw [dc_t.mpr a, dc_t.mpr ⟨this.mp a.1, a.2⟩]
  · rw [dc_f.mpr a, dc_f.mpr (fun b => a ⟨this.mpr b.1, b.2⟩)]
theorem fin_cells (c : sm_G) (k : Nat) (s : Int32) : (∀ a b, rS (fin c k s) a b = rS c a b) ∧ (∀ a, a ≠ 28 → a ≠ 30 → rA (fin c k s) a = rA c a) ∧ (∀ a, rL (fin c k s) a = rL c a) := ⟨fin_S c k s, fin_A c k s, fin_L c k s⟩
/-- the coupling speaks of few cells of the claims -/
theorem CP_same {c d g : sm_G} (h : CP c g) (hi : iv d) (h1 : ∀ a b, rS d a b = rS c a b) (h2 : ∀ a, a ≠ 28 → a ≠ 30 → rA d a = rA c a) (h3 : ∀ a, rL d a = rL c a) {F : Nat → Int32} (hF : ∀ k, k < nC c → F k = rA d 28 k) : CP d (gA g 82 F) := by
  obtain ⟨i, cq, cr, ct, cc⟩ := h
  have n1 : nQ d = nQ c := by simp only [nQ, h1]
  have n2 : nR d = nR c := by simp only [nR, h1]
  have n3 : nT d = nT c := by simp only [nT, h1]
  have n4 : nO d = nO c := by simp only [nO, h1]
  have n5 : nC d = nC c := by simp only [nC, h1]
  have a2 := h2 2 (by decide) (by decide)
  have a3 := h2 3 (by decide) (by decide)
  have a4 := h2 4 (by decide) (by decide)
  have a7 := h2 7 (by decide) (by decide)
  have a8 := h2 8 (by decide) (by decide)
  have a10 := h2 10 (by decide) (by decide)
  have a11 := h2 11 (by decide) (by decide)
  have a13 := h2 13 (by decide) (by decide)
  have a14 := h2 14 (by decide) (by decide)
  have a16 := h2 16 (by decide) (by decide)
  have a17 := h2 17 (by decide) (by decide)
  have a18 := h2 18 (by decide) (by decide)
  have a19 := h2 19 (by decide) (by decide)
  have a20 := h2 20 (by decide) (by decide)
  have a21 := h2 21 (by decide) (by decide)
  have a22 := h2 22 (by decide) (by decide)
  have a23 := h2 23 (by decide) (by decide)
  have a24 := h2 24 (by decide) (by decide)
  have a26 := h2 26 (by decide) (by decide)
  have a27 := h2 27 (by decide) (by decide)
  have a29 := h2 29 (by decide) (by decide)
  have a50 := h2 50 (by decide) (by decide)
  have a85 := h2 85 (by decide) (by decide)
  have a86 := h2 86 (by decide) (by decide)
  refine ⟨hi, ?_, ?_, ?_, ?_⟩
  · unfold cpQ at cq ⊢
    simp only [n1, a2, a3, a4, h3]; exact cq
  · unfold cpR at cr ⊢
    simp only [anC, Nat.reduceAdd, Nat.reduceDiv] at cr
    simp only [n2, anC, Nat.reduceAdd, Nat.reduceDiv, a7, a8, a10, a11, a85, a86, a13, a14]; exact cr
  · unfold cpT at ct ⊢
    simp only [whC, whyC] at ct
    simp only [n3, n4, whC, whyC, h1, a16, a17, a18, a19, a20, a21, a22, a23, a24, a50]; exact ct
  · unfold cpC at cc ⊢
    simp only [n5, a26, a27, a29]
    exact ⟨cc.1, cc.2.1, cc.2.2.1, fun k hk => hF k hk, cc.2.2.2.2.1, cc.2.2.2.2.2⟩
theorem CP_fin {c g : sm_G} (h : CP c g) {k : Nat} {s : Int32} (hk : k < nC c) (h1 : (rA c 28 k).toInt ≤ 1) (hs : 1 < s.toInt ∧ s.toInt ≤ 5) : CP (fin c k s) (gA g 82 (upd (rA g 82) k s)) := by
  obtain ⟨f1, f2, f3⟩ := fin_cells c k s
  refine CP_same h (iv_fin h.1 hk hs) f1 f2 f3 (fun j hj => ?_)
  rw [fin_28]
  by_cases e : j = k
  · rw [e, pk_us, if_pos ⟨rfl, h1⟩]
  · rw [pk_un e, if_neg (fun h => e h.1)]; exact h.2.2.2.2.2.2.2.1 j hj
theorem iv_prv {c : sm_G} (h : iv c) {k : Nat} (h1 : (rA c 28 k).toInt ≤ 1) : iv (gA c 28 (upd (rA c 28) k (nI 1))) := by
  obtain ⟨iQ, iR, iT, iC⟩ := h
  have e28 : ∀ j, ((rA (gA c 28 (upd (rA c 28) k (nI 1))) 28 j).toInt ≤ 1) = ((rA c 28 j).toInt ≤ 1) := fun j => by
    rw [rA_gA, if_pos rfl]
    by_cases e : j = k
    · rw [e, pk_us]; exact propext ⟨fun _ => h1, fun _ => by decide⟩
    · rw [pk_un e]
  refine ⟨iQ, iR, iT, iC.1, iC.2.1, fun j hj => ?_, fun t ht => ?_⟩
  · obtain ⟨x1, x2, x3, x4, x5⟩ := iC.2.2.1 j hj
    refine ⟨x1, x2, ?_, ?_, fun h => x5 (by rw [e28] at h; exact h)⟩
    · show 0 ≤ (upd (rA c 28) k (nI 1) j).toInt
      by_cases e : j = k
      · rw [e, pk_us]; decide
      · rw [pk_un e]; exact x3
    · show (upd (rA c 28) k (nI 1) j).toInt ≤ 5
      by_cases e : j = k
      · rw [e, pk_us]; decide
      · rw [pk_un e]; exact x4
  · have := iC.2.2.2 t ht
    show rA c 30 t = _
    rw [this]
    refine congrArg nI (cnt_congr _ (fun j _ => ?_))
    show dc _ = dc _
    rw [e28]; rfl
theorem CP_prv {c g : sm_G} (h : CP c g) {k : Nat} (hk : k < nC c) (h1 : (rA c 28 k).toInt ≤ 1) : CP (gA c 28 (upd (rA c 28) k (nI 1))) (gA g 82 (upd (rA g 82) k (nI 1))) := by
  refine CP_same h (iv_prv h.1 h1) (fun _ _ => rfl) (fun a ha _ => by rw [rA_gA, if_neg ha]) (fun _ => rfl) (fun j hj => ?_)
  rw [rA_gA, if_pos rfl]
  by_cases e : j = k
  · rw [e, pk_us, pk_us]
  · rw [pk_un e, pk_un e]; exact h.2.2.2.2.2.2.2.1 j hj
def sp_X10_withdraw (c : sm_G) : sm_SP := fun as g K => match as with
  | [.ref p, .int k] => p = 53 ∧ CP c g ∧ (¬ stdC c k → ∀ h, mS g h → CP c h → K (some (.int (nI 0))) h) ∧ (stdC c k → ∀ h, mS g h → CP (fin c (tn k) (nI 2)) h → K (some (.int (nI 1))) h)
  | _ => False
theorem wf_X10_withdraw (c : sm_G) : sm_wf lay (yX10_withdraw, cX10_withdraw, 2, (some .boolean)) 2 false (sp_X10_withdraw c) := by
  intro as g K h
  simp only [sp_X10_withdraw] at h
  split at h
  · exact ⟨Nat.le_of_ble_eq_true rfl, by simp, rfl, fun _ => by obtain rfl := h.1; exact ⟨53, _, 10, [1, 1, 56, 57, 58, 59, 60, 61, 1, 1, 62, 63, 64, 65, 66, 67, 68, 69, 70, 71, 72, 73, 1, 74, 75, 76, 77, 1, 1, 78, 79, 1, 80, 1, 81, 1, 82, 83, 84, 85, 86, 1], TX10, 42, rfl, rfl, rfl⟩⟩
  · exact h.elim
set_option maxHeartbeats 4000000 in
set_option maxRecDepth 100000 in
theorem b_X10_withdraw (c : sm_G) : sm_body lay NX10_withdraw 2 1 (sm_cl [(208, sp_X10_stands)]) (sp_X10_withdraw c) := by
  intro K J S hW as g hs
  have hn := n_X10_withdraw
  have hf := fd_all
  have ha := ar_all
  generalize NX10_withdraw = N at hn hW
  generalize lay = L at hf ha hW
  obtain ⟨hS, hR⟩ := hW
  simp only [sp_X10_withdraw] at hs
  split at hs
  case h_2 => exact hs.elim
  simp only [e_args, sm_pad, List.length_cons, List.length_nil, Nat.reduceAdd, Nat.reduceSub, List.replicate_succ, List.replicate_zero, List.cons_append, List.nil_append]
  rename_i p k
  obtain ⟨rfl, h, h1, h2⟩ := hs
  have hn2 := CP_n h
  obtain ⟨z, zn⟩ := CP_zM h
  have zf : ∀ v, zM (gS g 53 1000 v) := fun v => z
  have nf : ∀ v, mC (gS g 53 1000 v) = nC c := fun v => zn
  have sf : ∀ v j, stM (gS g 53 1000 v) j = stM g j := fun v j => rfl
  by_cases hst : stdC c k
  · have hst2 := hst
    unfold stdC at hst2
    obtain ⟨k, hk, rfl⟩ := ok_nI hst2.1
    rw [tn_nI (by omega)] at h2 hst2
    have hs := (CP_stM h hk).mpr hst2.2
    have h2 := h2 hst (gS (gA g 82 (upd (rA g 82) k (nI 2))) 53 1000 (nI 0)) (mS_S (mS_A (mS_rf g) (by omega))) (CP_fin h hk hst2.2 (by decide))
    clear h1
    apply hR 60
    simp (maxSteps := 10000000) (disch := omega) only [hS, hn, sm_eqs, hf, ha, sm_b0, Int.reduceToNat, ↓reduceIte, Nat.reduceEqDiff, true_and, and_true, List.length_nil, List.length_cons, Nat.reduceAdd, Nat.reduceLeDiff, Nat.zero_le, false_implies, true_implies, not_true_eq_false, not_false_eq_true, implies_true, Nat.reduceSub, Nat.reduceMul, Nat.reduceDiv, reduceCtorEq, tn_clamp, nI_t, tn_nI, nI_add, pk_mul, rS_gS, rS_gA, rS_gL, rA_gS, rA_gA, rA_gL, rL_gS, rL_gA, rL_gL, and_self, and_false, false_and, if_true, if_false, true_or, or_true, or_false, false_or, sm_in, eqI, sI_s, Int32.toInt_zero, Int.natCast_zero, Int.natCast_one, Int.cast_ofNat_Int, Int.reduceEq, Int.reduceLT, Int.reduceLE, Int.reduceNeg, Int.reduceNe, ne_eq, n_up, g_up, e_cat, fr_A, fr_O, fr_P, fr_L, sp_X10_stands, zf, nf, sf, hs]
    clear hn hf ha hS hR
    repeat' (first | (refine And.intro ?_ ?_) | (intro _))
    all_goals (first | with_reducible assumption | omega | (exfalso; omega))
  · have h1 := h1 hst (gS g 53 1000 (nI 0)) (mS_S (mS_rf g)) h
    have hno : ¬ (0 ≤ k.toInt ∧ k.toInt < (nC c : Int) ∧ stM g (tn k)) := fun ⟨a, b, d⟩ => hst (by
      unfold stdC okC
      exact ⟨⟨a, b⟩, (CP_stM h (by unfold tn; omega)).mp d⟩)
    clear h2
    apply hR 60
    simp (maxSteps := 10000000) (disch := omega) only [hS, hn, sm_eqs, hf, ha, sm_b0, Int.reduceToNat, ↓reduceIte, Nat.reduceEqDiff, true_and, and_true, List.length_nil, List.length_cons, Nat.reduceAdd, Nat.reduceLeDiff, Nat.zero_le, false_implies, true_implies, not_true_eq_false, not_false_eq_true, implies_true, Nat.reduceSub, Nat.reduceMul, Nat.reduceDiv, reduceCtorEq, tn_clamp, nI_t, tn_nI, nI_add, pk_mul, rS_gS, rS_gA, rS_gL, rA_gS, rA_gA, rA_gL, rL_gS, rL_gA, rL_gL, and_self, and_false, false_and, if_true, if_false, true_or, or_true, or_false, false_or, sm_in, eqI, sI_s, Int32.toInt_zero, Int.natCast_zero, Int.natCast_one, Int.cast_ofNat_Int, Int.reduceEq, Int.reduceLT, Int.reduceLE, Int.reduceNeg, Int.reduceNe, ne_eq, n_up, g_up, e_cat, fr_A, fr_O, fr_P, fr_L, sp_X10_stands, zf, nf, sf]
    clear hn hf ha hS hR
    exact ⟨fun a => absurd a hno, fun _ => h1⟩
theorem ok_X10_withdraw (l : Launch) (c : sm_G) : sm_spok l lay sm_mt 3 215 (sp_X10_withdraw c) := Or.inr (Or.inr (Or.inr ⟨by decide, by decide, by
  rw [mt_215]
  exact sm_method (T := TX10_) v_cok v_lok v_ka v_tok_X10 mok_X10_withdraw rfl (by unfold sm_rk; simp) (wf_X10_withdraw c) (List.forall_mem_cons.mpr ⟨sm_spok_up (Nat.le_of_ble_eq_true rfl : 2 ≤ 2) (ok_X10_stands l), fun _ h => absurd h List.not_mem_nil⟩) (b_X10_withdraw c)⟩))
