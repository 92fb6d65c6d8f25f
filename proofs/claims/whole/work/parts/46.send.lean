/-! Going out on a stack: the same as by recursion. -/
theorem gA_comm (g : sm_G) {k j : Nat} (f h : Nat → Int32) (hkj : k ≠ j) : gA (gA g k f) j h = gA (gA g j h) k f := by
  refine Prod.ext rfl (Prod.ext (funext fun a => ?_) rfl)
  simp only [gA]
  by_cases e1 : a = j
  · rw [if_pos e1, if_neg (by omega), if_pos e1]
  · rw [if_neg e1, if_neg e1]
theorem fin_gA (g : sm_G) {k : Nat} (f : Nat → Int32) (c : Nat) (s : Int32) (h : 30 < k) : fin (gA g k f) c s = gA (fin g c s) k f := by
  have e : ∀ a, a ≤ 30 → rA (gA g k f) a = rA g a := fun a ha => by rw [rA_gA, if_neg (by omega)]
  unfold fin
  rw [e 28 (by omega), e 27 (by omega), e 30 (by omega)]
  split
  · rw [gA_comm g f (upd (rA g 28) c s) (show k ≠ 28 by omega), gA_comm _ f _ (show k ≠ 30 by omega)]
  · rfl
theorem fins_gA (g : sm_G) {k : Nat} (f : Nat → Int32) (p : Nat → Bool) (s : Int32) (h : 30 < k) : ∀ n, fins (gA g k f) p s n = gA (fins g p s n) k f := by
  intro n
  induction n with
  | zero => rfl
  | succ n ih =>
    simp only [fins]
    split
    · rw [ih, fin_gA _ _ _ _ h]
    · exact ih
theorem out_gA (g : sm_G) {k : Nat} (f : Nat → Int32) (t : Nat) (w y : Int32) (h : 30 < k) : outG (gA g k f) t w y = gA (outG g t w y) k f := by
  unfold outG
  have e27 : rA (gA g k f) 27 = rA g 27 := by rw [rA_gA, if_neg (by omega)]
  rw [e27, show nC (gA g k f) = nC g from rfl, fins_gA _ _ _ _ h]
  generalize fins g (fun c => (rA g 27 c).toInt == (t : Int)) (nI 5) (nC g) = q
  unfold leaG
  simp only [rA_gA]
  rw [if_neg (by omega), if_neg (by omega), if_neg (by omega), if_neg (by omega), if_neg (by omega)]
  rw [gA_comm q _ _ (show k ≠ 19 by omega), gA_comm _ _ _ (show k ≠ 21 by omega), gA_comm _ _ _ (show k ≠ 22 by omega), gA_comm _ _ _ (show k ≠ 23 by omega), gA_comm _ _ _ (show k ≠ 24 by omega)]
  rfl
theorem mv_gA (g : sm_G) {k : Nat} (f : Nat → Int32) (o : Nat) (h : 30 < k) : mvS (gA g k f) o = gA (mvS g o) k f := by
  unfold mvS
  rw [rA_gA, if_neg (by omega), gA_comm _ _ _ (by omega)]
theorem wG_gA (g : sm_G) {k : Nat} (f : Nat → Int32) (h : 30 < k) : wG (gA g k f) = wG g := by
  have e : ∀ a, a ≤ 30 → rA (gA g k f) a = rA g a := fun a ha => by rw [rA_gA, if_neg (by omega)]
  unfold wG whyC bgC stOk
  rw [e 27 (by omega), e 23 (by omega), e 19 (by omega), e 28 (by omega), e 30 (by omega)]
  rfl
theorem wy_gA (g : sm_G) {k : Nat} (f : Nat → Int32) (x : Nat) (h : 30 < k) : whyC (gA g k f) x = whyC g x := by unfold whyC; rw [rA_gA, if_neg (by omega)]
theorem fs_fr (g : sm_G) (p : Nat → Bool) (s : Int32) (n : Nat) : zT (fins g p s n) = zT g ∧ zO (fins g p s n) = zO g ∧ nT (fins g p s n) = nT g ∧ nO (fins g p s n) = nO g ∧ (∀ t, hereC (fins g p s n) t = hereC g t) := by
  have n1 : nT (fins g p s n) = nT g := by simp only [nT, fins_S]
  have n2 : nO (fins g p s n) = nO g := by simp only [nO, fins_S]
  refine ⟨by simp only [zT, fins_S, n1], by simp only [zO, fins_S, n2], n1, n2, fun t => ?_⟩
  unfold hereC okT
  rw [n1, fins_A _ _ _ _ (by decide) (by decide)]
def sp_X9_sendOut : sm_SP := fun as g K => match as with
  | [.ref p, .int t, .int w, .int y] => p = 0 ∧ wG g ∧ ∃ T, t = nI T ∧ T < nT g ∧ whyC g T = -1 ∧ K none (outG g T w y)
  | _ => False
theorem wf_X9_sendOut : sm_wf lay (yX9_sendOut, cX9_sendOut, 4, none) 4 false sp_X9_sendOut := by
  intro as g K h
  simp only [sp_X9_sendOut] at h
  split at h
  · exact ⟨Nat.le_of_ble_eq_true rfl, by simp, rfl, fun _ => by obtain rfl := h.1; exact ⟨0, _, 9, [3, 8, 11, 14, 17, 27, 33, 35, 48, 52, 53, 1], TX9, 12, rfl, rfl, rfl⟩⟩
  · exact h.elim
set_option maxHeartbeats 4000000 in
set_option maxRecDepth 100000 in
theorem b_X9_sendOut : sm_body lay NX9_sendOut 4 4 (sm_cl [(44, sp_X2_finishAllOn), (109, sp_X8_leave)]) sp_X9_sendOut := by
  intro K J S hW as g hs
  have hn := n_X9_sendOut
  have hf := fd_all
  have ha := ar_all
  generalize NX9_sendOut = N at hn hW
  generalize lay = L at hf ha hW
  obtain ⟨hS, hR⟩ := hW
  simp only [sp_X9_sendOut] at hs
  split at hs
  case h_2 => exact hs.elim
  simp only [e_args, sm_pad, List.length_cons, List.length_nil, Nat.reduceAdd, Nat.reduceSub, List.replicate_succ, List.replicate_zero, List.cons_append, List.nil_append]
  rename_i p t w y
  obtain ⟨rfl, h, T, rfl, hT, hw, hs⟩ := hs
  have hlt := nO_lt h hT hw
  obtain ⟨zt, zo, zc, h4, h5, h6, h7, h8, h9⟩ := h
  have hzt := zt.2
  have hh : hereC g (nI T) := by unfold hereC okT; rw [nI_t (by omega), tn_nI (by omega)]; exact ⟨by omega, hw⟩
  have hff := fs_fr g (fun c => (rA g 27 c).toInt == (T : Int)) (nI 5) (nC g)
  simp only [sm_in] at h4
  simp only [outG, leaG, hff] at hs
  apply hR 60
  simp (maxSteps := 10000000) (disch := omega) only [hS, hn, sm_eqs, hf, ha, sm_b0, Int.reduceToNat, ↓reduceIte, Nat.reduceEqDiff, true_and, and_true, List.length_nil, List.length_cons, Nat.reduceAdd, Nat.reduceLeDiff, Nat.zero_le, false_implies, true_implies, not_true_eq_false, not_false_eq_true, implies_true, Nat.reduceSub, Nat.reduceMul, Nat.reduceDiv, reduceCtorEq, tn_clamp, nI_t, tn_nI, nI_add, pk_mul, rS_gS, rS_gA, rS_gL, rA_gS, rA_gA, rA_gL, rL_gS, rL_gA, rL_gL, and_self, and_false, false_and, if_true, if_false, true_or, or_true, or_false, false_or, sm_in, eqI, sI_s, Int32.toInt_zero, Int.natCast_zero, Int.natCast_one, Int.cast_ofNat_Int, Int.reduceEq, Int.reduceLT, Int.reduceLE, Int.reduceNeg, Int.reduceNe, ne_eq, n_up, g_up, e_cat, fr_A, fr_O, fr_P, fr_L, sp_X2_finishAllOn, sp_X8_leave, zc, zt, zo, hff, hh, fins_S]
  clear hn hf ha hS hR
  exact ⟨h4, by omega, hs⟩
theorem ok_X9_sendOut (l : Launch) : sm_spok l lay sm_mt 3 156 sp_X9_sendOut := Or.inr (Or.inr (Or.inr ⟨by decide, by decide, by
  rw [mt_156]
  exact sm_method (T := TX9_) v_cok v_lok v_ka v_tok_X9 mok_X9_sendOut rfl (by unfold sm_rk; simp) wf_X9_sendOut (List.forall_mem_cons.mpr ⟨sm_spok_up (Nat.le_of_ble_eq_true rfl : 2 ≤ 2) (ok_X2_finishAllOn l), List.forall_mem_cons.mpr ⟨sm_spok_up (Nat.le_of_ble_eq_true rfl : 2 ≤ 2) (ok_X8_leave l), fun _ h => absurd h List.not_mem_nil⟩⟩) b_X9_sendOut⟩))
/-- from a on, m steps -/
def itf (step : sm_G → Nat → sm_G) : sm_G → Nat → Nat → sm_G
  | g, _, 0 => g
  | g, a, m + 1 => itf step (step g a) (a + 1) m
theorem itr_itf (step : sm_G → Nat → sm_G) (g : sm_G) : ∀ m a, itr step g (a + m) = itf step (itr step g a) a m := by
  intro m
  induction m with
  | zero => intro a; rfl
  | succ m ih =>
    intro a
    rw [show a + (m + 1) = (a + 1) + m by omega, ih (a + 1)]
    rfl
theorem itf_skip (step : sm_G → Nat → sm_G) (g : sm_G) {a t n : Nat} (ht : a ≤ t) (hn : t < n) (h : ∀ u, a ≤ u → u < t → step g u = g) : itf step g a (n - a) = itf step (step g t) (t + 1) (n - (t + 1)) := by
  have : ∀ d a, a + d = t → (∀ u, a ≤ u → u < t → step g u = g) → itf step g a (n - a) = itf step (step g t) (t + 1) (n - (t + 1)) := by
    intro d
    induction d with
    | zero =>
      intro a e _
      obtain rfl : a = t := by omega
      rw [show n - a = (n - (a + 1)) + 1 by omega]
      rfl
    | succ d ih =>
      intro a e hu
      rw [show n - a = (n - (a + 1)) + 1 by omega]
      show itf step (step g a) (a + 1) (n - (a + 1)) = _
      rw [hu a (Nat.le_refl _) (by omega)]
      exact ih (a + 1) (by omega) (fun u h1 h2 => hu u (by omega) h2)
  exact this (t - a) a (by omega) h
theorem itf_none (step : sm_G → Nat → sm_G) (g : sm_G) : ∀ m a, (∀ u, a ≤ u → u < a + m → step g u = g) → itf step g a m = g := by
  intro m
  induction m with
  | zero => intro a _; rfl
  | succ m ih =>
    intro a h
    show itf step (step g a) (a + 1) m = g
    rw [h a (Nat.le_refl _) (by omega)]
    exact ih (a + 1) (fun u h1 h2 => h u (by omega) (by omega))
def stp (f b : Nat) (w y : Int32) : sm_G → Nat → sm_G := fun g o => if (rA g 19 o).toInt = (b : Int) then (if 0 < (rA g 30 o).toInt then mvS g o else goT f g o w y) else g
/-- what is left to do of a stack of n open bags -/
def runS (w y : Int32) (n0 : Nat) (B A : Nat → Nat) : Nat → sm_G → sm_G
  | 0, g => g
  | n + 1, g => runS w y n0 B A n (itf (stp (59 - n) (B n) w y) g (A n) (n0 - A n))
theorem runS_congr (w y : Int32) (n0 : Nat) {B A B' A' : Nat → Nat} : ∀ n g, (∀ i, i < n → B i = B' i ∧ A i = A' i) → runS w y n0 B A n g = runS w y n0 B' A' n g := by
  intro n
  induction n with
  | zero => intro g _; rfl
  | succ n ih =>
    intro g h
    simp only [runS]
    rw [(h n (by omega)).1, (h n (by omega)).2, ih _ (fun i hi => h i (by omega))]
theorem goT_s (f : Nat) (g : sm_G) (t : Nat) (w y : Int32) : goT (f + 1) g t w y = itf (stp f t w y) (outG g t w y) 0 (nT g) := by
  have := itr_itf (stp f t w y) (outG g t w y) (nT g) 0
  rw [Nat.zero_add] at this
  exact this
/-- how many things are inside -/
noncomputable def insN (g : sm_G) : Nat := cnt (fun t => dc (bgC g t ≠ -1)) (nT g)
theorem ins_lt {g h : sm_G} {t : Nat} (n : nT h = nT g) (ht : t < nT g) (hb : bgC g t ≠ -1) (e : rA h 19 = upd (rA g 19) t (sI 0)) : insN h < insN g := by
  unfold insN
  rw [n]
  refine cnt_lt (nT g) (fun i hi hx => ?_) ⟨t, ht, dc_f.mpr (fun h2 => h2 (by unfold bgC; rw [e, pk_us]; rfl)), dc_t.mpr hb⟩
  have := dc_t.mp hx
  refine dc_t.mpr (fun h2 => this ?_)
  unfold bgC at h2 ⊢
  rw [e]
  by_cases e2 : i = t
  · rw [e2, pk_us]; rfl
  · rw [pk_un e2]; exact h2
def sp_X9_sendWithContents : sm_SP := fun as g K => match as with
  | [.ref p, .int t, .int w, .int y] => p = 0 ∧ wG g ∧ y.toInt ≠ -1 ∧ ∃ T, t = nI T ∧ T < nT g ∧ whyC g T = -1 ∧ (∀ fb fa, K none (gA (gA (goT 60 g T w y) 51 fb) 52 fa))
  | _ => False
theorem wf_X9_sendWithContents : sm_wf lay (yX9_sendWithContents, cX9_sendWithContents, 8, none) 4 false sp_X9_sendWithContents := by
  intro as g K h
  simp only [sp_X9_sendWithContents] at h
  split at h
  · exact ⟨Nat.le_of_ble_eq_true rfl, by simp, rfl, fun _ => by obtain rfl := h.1; exact ⟨0, _, 9, [3, 8, 11, 14, 17, 27, 33, 35, 48, 52, 53, 1], TX9, 12, rfl, rfl, rfl⟩⟩
  · exact h.elim
set_option maxHeartbeats 4000000 in
set_option maxRecDepth 100000 in
theorem b_X9_sendWithContents : sm_body lay NX9_sendWithContents 8 4 (sm_cl [(156, sp_X9_sendOut), (107, sp_X8_firstInside), (34, sp_X2_standingOn), (105, sp_X8_moveTo)]) sp_X9_sendWithContents := by
  intro K J S hW as g hs
  have hn := n_X9_sendWithContents
  have hf := fd_all
  have ha := ar_all
  generalize NX9_sendWithContents = N at hn hW
  generalize lay = L at hf ha hW
  obtain ⟨hS, hR⟩ := hW
  simp only [sp_X9_sendWithContents] at hs
  split at hs
  case h_2 => exact hs.elim
  simp only [e_args, sm_pad, List.length_cons, List.length_nil, Nat.reduceAdd, Nat.reduceSub, List.replicate_succ, List.replicate_zero, List.cons_append, List.nil_append]
  rename_i p t w y
  obtain ⟨rfl, h, hy, T, rfl, hT, hw, hs1⟩ := hs
  have hs : ∀ fb, K none (gA (goT 60 g T w y) 51 fb) := fun fb => by
    have h1 := hs1 fb (rA (goT 60 g T w y) 52)
    rw [show rA (goT 60 g T w y) 52 = rA (gA (goT 60 g T w y) 51 fb) 52 by rw [rA_gA, if_neg (by decide)], gA_self] at h1
    exact h1
  clear hs1
  have hlt := nO_lt h hT hw
  have hzt := h.1.2
  obtain ⟨n0, hn0⟩ : ∃ n0, n0 = nT g := ⟨_, rfl⟩
  have loop : ∀ m M, M ≤ m → ∀ n G (B A : Nat → Nat) (fb : Nat → Int32) s v7, M = 2 * insN G + n → s + M ≤ 120 → n ≤ nO G → wG G → nT G = n0 → (∀ i, i < n → fb i = nI (B i) ∧ B i < 60 ∧ ∀ u, u < A i → (rA G 19 u).toInt ≠ (B i : Int)) → runS w y n0 B A n G = goT 60 g T w y →
      J 24 [some (.ref 0), some (.int (nI T)), some (.int w), some (.int y), some (.int (nI n)), some (.int (nI 120)), some (.int (nI s)), v7] [] (gA G 51 fb) := by
    intro m
    induction m with
    | zero =>
      intro M hM n G B A fb s v7 hMe hs2 hnO hwG hnT hst hrun
      obtain rfl : n = 0 := by omega
      have hs := hs fb
      rw [← hrun] at hs
      simp only [runS] at hs
      apply hR 60
      simp (maxSteps := 10000000) (disch := omega) only [hS, hn, sm_eqs, hf, ha, sm_b0, Int.reduceToNat, ↓reduceIte, Nat.reduceEqDiff, true_and, and_true, List.length_nil, List.length_cons, Nat.reduceAdd, Nat.reduceLeDiff, Nat.zero_le, false_implies, true_implies, not_true_eq_false, not_false_eq_true, implies_true, Nat.reduceSub, Nat.reduceMul, Nat.reduceDiv, reduceCtorEq, tn_clamp, nI_t, tn_nI, nI_add, pk_mul, rS_gS, rS_gA, rS_gL, rA_gS, rA_gA, rA_gL, rL_gS, rL_gA, rL_gL, and_self, and_false, false_and, if_true, if_false, true_or, or_true, or_false, false_or, sm_in, eqI, sI_s, Int32.toInt_zero, Int.natCast_zero, Int.natCast_one, Int.cast_ofNat_Int, Int.reduceEq, Int.reduceLT, Int.reduceLE, Int.reduceNeg, Int.reduceNe, ne_eq, n_up, g_up, e_cat, fr_A, fr_O, fr_P, fr_L, sp_X9_sendOut, sp_X8_firstInside, sp_X2_standingOn, sp_X8_moveTo]
      clear hn hf ha hS hR
      repeat' (first | (refine And.intro ?_ ?_) | (intro _))
      all_goals (first | with_reducible assumption | omega | (exfalso; omega))
    | succ m ih =>
      intro M hM n G B A fb s v7 hMe hs2 hnO hwG hnT hst hrun
      cases n with
      | zero =>
        have hs := hs fb
        rw [← hrun] at hs
        simp only [runS] at hs
        clear ih
        apply hR 60
        simp (maxSteps := 10000000) (disch := omega) only [hS, hn, sm_eqs, hf, ha, sm_b0, Int.reduceToNat, ↓reduceIte, Nat.reduceEqDiff, true_and, and_true, List.length_nil, List.length_cons, Nat.reduceAdd, Nat.reduceLeDiff, Nat.zero_le, false_implies, true_implies, not_true_eq_false, not_false_eq_true, implies_true, Nat.reduceSub, Nat.reduceMul, Nat.reduceDiv, reduceCtorEq, tn_clamp, nI_t, tn_nI, nI_add, pk_mul, rS_gS, rS_gA, rS_gL, rA_gS, rA_gA, rA_gL, rL_gS, rL_gA, rL_gL, and_self, and_false, false_and, if_true, if_false, true_or, or_true, or_false, false_or, sm_in, eqI, sI_s, Int32.toInt_zero, Int.natCast_zero, Int.natCast_one, Int.cast_ofNat_Int, Int.reduceEq, Int.reduceLT, Int.reduceLE, Int.reduceNeg, Int.reduceNe, ne_eq, n_up, g_up, e_cat, fr_A, fr_O, fr_P, fr_L, sp_X9_sendOut, sp_X8_firstInside, sp_X2_standingOn, sp_X8_moveTo]
        clear hn hf ha hS hR
        repeat' (first | (refine And.intro ?_ ?_) | (intro _))
        all_goals (first | with_reducible assumption | omega | (exfalso; omega))
      | succ n =>
        obtain ⟨eB, lB, hA⟩ := hst n (by omega)
        have hzO := hwG.2.1.2
        have hzG := hwG.1
        have hsubn : nI (n + 1) - nI 1 = nI n := by rw [pk_sub (by omega)]; rfl
        clear hs
        have hpop : nI (n + 1) + Int32.ofInt (-1) = nI n := by
          show nI (n + 1) + sI 0 = nI n
          apply Int32.toInt_inj.mp
          rw [Int32.toInt_add, sI_s.1, nI_t (by omega), nI_t (by omega), Int.bmod_eq_of_le (by omega) (by omega)]
          omega
        simp only [runS] at hrun
        apply hR 90
        simp (maxSteps := 10000000) (disch := omega) only [hS, hn, sm_eqs, hf, ha, sm_b0, Int.reduceToNat, ↓reduceIte, Nat.reduceEqDiff, true_and, and_true, List.length_nil, List.length_cons, Nat.reduceAdd, Nat.reduceLeDiff, Nat.zero_le, false_implies, true_implies, not_true_eq_false, not_false_eq_true, implies_true, Nat.reduceSub, Nat.reduceMul, Nat.reduceDiv, reduceCtorEq, tn_clamp, nI_t, tn_nI, nI_add, pk_mul, rS_gS, rS_gA, rS_gL, rA_gS, rA_gA, rA_gL, rL_gS, rL_gA, rL_gL, and_self, and_false, false_and, if_true, if_false, true_or, or_true, or_false, false_or, sm_in, eqI, sI_s, Int32.toInt_zero, Int.natCast_zero, Int.natCast_one, Int.cast_ofNat_Int, Int.reduceEq, Int.reduceLT, Int.reduceLE, Int.reduceNeg, Int.reduceNe, ne_eq, n_up, g_up, e_cat, fr_A, fr_O, fr_P, fr_L, sp_X9_sendOut, sp_X8_firstInside, sp_X2_standingOn, sp_X8_moveTo, hsubn, eB, hzG, wG_gA, hpop]
        clear hn hf ha hS hR
        refine ⟨fun _ => ⟨fun _ => ⟨by omega, fun t t2 t3 t4 => ?_, fun hno => ?_⟩, fun h => absurd h (by omega)⟩, fun h => absurd h (by omega)⟩
        · have hAt : A n ≤ t := Classical.byContradiction (fun h9 => hA t (by omega) t3)
          have hbt : bgC G t ≠ -1 := by unfold bgC; omega
          have hwt : whyC G t = -1 := Classical.byContradiction (fun hne => hbt (hwG.2.2.2.2.1 t t2 hne))
          have hl2 := nO_lt hwG t2 hwt
          have ht60 : t < 60 := by omega
          have hsk := itf_skip (stp (59 - n) (B n) w y) G hAt (show t < n0 by omega) (fun u h1 h2 => if_neg (t4 u h2))
          rw [hsk] at hrun
          have t5 : ∀ u, u < t → (rA G 19 u).toInt ≠ (B n : Int) := fun u hu => t4 u hu
          rw [nI_t (by omega), tn_nI (by omega)]
          refine ⟨fun h => absurd h (by omega), fun _ => ⟨fun _ => ⟨fun hpos => ⟨?_, ?_⟩, fun hneg => ⟨hwG, ?_⟩⟩, fun h => absurd (show (0 : Int) ≤ t ∧ (t : Int) < 60 by omega) h⟩⟩
          · unfold okT; rw [nI_t (by omega)]; omega
          · have es : stp (59 - n) (B n) w y G t = mvS G t := by unfold stp; rw [if_pos t3, if_pos hpos]
            rw [es] at hrun
            have pm := mv_gP (o := t) (y := y) hwG
            have c19 : rA (mvS G t) 19 = upd (rA G 19) t (sI 0) := by unfold mvS; rw [rA_gA, if_pos rfl]
            have hin := ins_lt (g := G) (h := mvS G t) rfl t2 hbt c19
            have ih := ih (2 * insN (mvS G t) + (n + 1)) (by omega) (n + 1) (mvS G t) B (fun i => if i = n then t + 1 else A i) fb (s + 1) (some (.int (nI t))) rfl (by omega) hnO pm.1 hnT (fun i hi => by
              have := hst i hi
              refine ⟨this.1, this.2.1, fun u hu => ?_⟩
              rw [c19]
              by_cases e2 : u = t
              · rw [e2, pk_us, sI_s.1]; omega
              · rw [pk_un e2]
                by_cases e : i = n
                · rw [e]; rw [if_pos e] at hu; exact t5 u (by omega)
                · rw [if_neg e] at hu; exact this.2.2 u hu) (by
              rw [← hrun]
              simp only [runS, if_true]
              exact runS_congr w y n0 n _ (fun i hi => ⟨rfl, if_neg (by omega)⟩))
            rw [gA_comm G _ _ (show (51 : Nat) ≠ 19 by decide)]
            exact ih
          · refine ⟨t, (nI_t (by omega)).symm, t2, by rw [wy_gA _ _ _ (by decide)]; exact hwt, fun _ => ⟨by omega, ?_⟩, fun h => absurd h (by omega)⟩
            have es : stp (59 - n) (B n) w y G t = goT (59 - (n + 1) + 1) G t w y := by
              unfold stp; rw [if_pos t3, if_neg hneg, show 59 - n = 59 - (n + 1) + 1 by omega]
            rw [es, goT_s] at hrun
            have po := og_gP (w := w) (y := y) hwG t2 hwt hy
            obtain ⟨o1, o2, o3⟩ := og_n G t w y hwG.2.1
            have c19 := (og_cells G t w y).1
            have hin := ins_lt (g := G) (h := outG G t w y) o1 t2 hbt c19
            have ih := ih (2 * insN (outG G t w y) + (n + 2)) (by omega) (n + 2) (outG G t w y) (fun i => if i = n + 1 then t else B i) (fun i => if i = n + 1 then 0 else if i = n then t + 1 else A i) (upd fb (n + 1) (nI t)) (s + 1) (some (.int (nI t))) rfl (by omega) (by omega) po.1 (by omega) (fun i hi => by
              (try dsimp only)
              by_cases e1 : i = n + 1
              · rw [e1, pk_us, if_pos rfl, if_pos rfl]; exact ⟨rfl, by omega, fun u hu => absurd hu (Nat.not_lt_zero u)⟩
              · have := hst i (by omega)
                rw [pk_un e1, if_neg e1, if_neg e1]
                refine ⟨this.1, this.2.1, fun u hu => ?_⟩
                rw [c19]
                by_cases e2 : u = t
                · rw [e2, pk_us, sI_s.1]; omega
                · rw [pk_un e2]
                  by_cases e : i = n
                  · rw [e]; rw [if_pos e] at hu; exact t5 u (by omega)
                  · rw [if_neg e] at hu; exact this.2.2 u hu) (by
              rw [← hrun]
              simp only [runS, if_true]
              rw [if_neg (show ¬ n = n + 1 by omega), if_neg (show ¬ n = n + 1 by omega), Nat.sub_zero, hnT]
              exact runS_congr w y n0 n _ (fun i hi => ⟨if_neg (by omega), by rw [if_neg (by omega), if_neg (by omega)]⟩))
            have eo : outG (gA G 51 fb) t w y = gA (outG G t w y) 51 fb := out_gA _ _ _ _ _ (by decide)
            rw [eo]
            generalize outG G t w y = O at ih ⊢
            show J 24 _ _ (gA (gA O 51 fb) 51 (upd fb (n + 1) (nI t)))
            rw [g_up.2.1]
            exact ih
        · rw [itf_none _ _ _ _ (fun u h1 h2 => if_neg (hno u (by omega)))] at hrun
          exact ih (2 * insN G + n) (by omega) n G B A fb (s + 1) (some (.int (sI 0))) rfl (by omega) (by omega) hwG hnT (fun i hi => hst i (by omega)) hrun
  have hzO := h.2.1.2
  obtain ⟨o1, o2, o3⟩ := og_n g T w y h.2.1
  have po := og_gP (w := w) (y := y) h hT hw hy
  have hin : insN (outG g T w y) ≤ 59 := by
    have h1 := cnt_lt (nT (outG g T w y)) (f := fun t => dc (bgC (outG g T w y) t ≠ -1)) (h := fun _ => true) (fun _ _ _ => rfl) ⟨T, by omega, dc_f.mpr (fun h2 => h2 (by unfold bgC; rw [(og_cells g T w y).1, pk_us]; rfl)), rfl⟩
    have h2 := cnt_le (fun _ => true) (nT (outG g T w y))
    unfold insN
    omega
  have h0 := loop (2 * insN (outG g T w y) + 1) _ (Nat.le_refl _) 1 (outG g T w y) (fun _ => T) (fun _ => 0) (upd (rA (outG g T w y) 51) 0 (nI T)) 0 none rfl (by omega) (by omega) po.1 (by omega) (fun i hi => by
    obtain rfl : i = 0 := by omega
    rw [pk_us]; exact ⟨rfl, by omega, fun u hu => absurd hu (Nat.not_lt_zero u)⟩) (by
    rw [goT_s]
    simp only [runS, Nat.sub_zero, hn0])
  clear hs loop
  apply hR 60
  simp (maxSteps := 10000000) (disch := omega) only [hS, hn, sm_eqs, hf, ha, sm_b0, Int.reduceToNat, ↓reduceIte, Nat.reduceEqDiff, true_and, and_true, List.length_nil, List.length_cons, Nat.reduceAdd, Nat.reduceLeDiff, Nat.zero_le, false_implies, true_implies, not_true_eq_false, not_false_eq_true, implies_true, Nat.reduceSub, Nat.reduceMul, Nat.reduceDiv, reduceCtorEq, tn_clamp, nI_t, tn_nI, nI_add, pk_mul, rS_gS, rS_gA, rS_gL, rA_gS, rA_gA, rA_gL, rL_gS, rL_gA, rL_gL, and_self, and_false, false_and, if_true, if_false, true_or, or_true, or_false, false_or, sm_in, eqI, sI_s, Int32.toInt_zero, Int.natCast_zero, Int.natCast_one, Int.cast_ofNat_Int, Int.reduceEq, Int.reduceLT, Int.reduceLE, Int.reduceNeg, Int.reduceNe, ne_eq, n_up, g_up, e_cat, fr_A, fr_O, fr_P, fr_L, sp_X9_sendOut, sp_X8_firstInside, sp_X2_standingOn, sp_X8_moveTo, h]
  clear hn hf ha hS hR
  exact ⟨T, (nI_t (by omega)).symm, hT, hw, h0⟩
theorem ok_X9_sendWithContents (l : Launch) : sm_spok l lay sm_mt 4 155 sp_X9_sendWithContents := Or.inr (Or.inr (Or.inr ⟨by decide, by decide, by
  rw [mt_155]
  exact sm_method (T := TX9_) v_cok v_lok v_ka v_tok_X9 mok_X9_sendWithContents rfl (by unfold sm_rk; simp) wf_X9_sendWithContents (List.forall_mem_cons.mpr ⟨sm_spok_up (Nat.le_of_ble_eq_true rfl : 3 ≤ 3) (ok_X9_sendOut l), List.forall_mem_cons.mpr ⟨sm_spok_up (Nat.le_of_ble_eq_true rfl : 1 ≤ 3) (ok_X8_firstInside l), List.forall_mem_cons.mpr ⟨sm_spok_up (Nat.le_of_ble_eq_true rfl : 2 ≤ 3) (ok_X2_standingOn l), List.forall_mem_cons.mpr ⟨sm_spok_up (Nat.le_of_ble_eq_true rfl : 2 ≤ 3) (ok_X8_moveTo l), fun _ h => absurd h List.not_mem_nil⟩⟩⟩⟩) b_X9_sendWithContents⟩))
