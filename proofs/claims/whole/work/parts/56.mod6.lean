/-! The reference: a row's answers marked and torn. -/
theorem put_A (c : sm_G) (p x q : Nat) (a : Int32) (k : Nat) (h : k ≠ p + 1) (h2 : k ≠ p + 2) (h3 : k ≠ p / 3 + 83) : rA (putG c p x q a) k = rA c k := by
  unfold putG; rw [rA_gA, if_neg h, rA_gA, if_neg h2, rA_gA, if_neg h3]
theorem put_len (c : sm_G) (p x q : Nat) (a : Int32) : rA (putG c p x q a) (p + 1) = upd (rA c (p + 1)) x (if (rA c (p + 1) x).toInt < ((q + 1 : Nat) : Int) then nI (q + 1) else rA c (p + 1) x) := by
  unfold putG; rw [rA_gA, if_pos rfl]
theorem put_ans (c : sm_G) (p x q : Nat) (a : Int32) : rA (putG c p x q a) (p + 2) = upd (rA c (p + 2)) (x * 16 + q) a := by
  unfold putG; rw [rA_gA, if_neg (by omega), rA_gA, if_pos rfl]
theorem put_kn (c : sm_G) {p : Nat} (hp : p = 6 ∨ p = 9) (x q : Nat) (a : Int32) : rA (putG c p x q a) (p / 3 + 83) = upd (rA c (p / 3 + 83)) x (kbS (rA c (p / 3 + 83) x) q a) := by
  unfold putG; rw [rA_gA, if_neg (by omega), rA_gA, if_neg (by omega), rA_gA, if_pos rfl]
theorem kbS_bit {k a : Int32} {q : Nat} (hq : q < 16) (j : Nat) : bitI (kbS k q a) j = if j = q then decide (a.toInt ≠ -1) else bitI k j := by
  unfold kbS
  by_cases h : a.toInt = -1
  · rw [if_pos h, bi_off (by omega)]
    by_cases e : j = q <;> simp [e, h]
  · rw [if_neg h, bi_or (by omega)]
    by_cases e : j = q <;> simp [e, h]
theorem put_an {c : sm_G} {p x q : Nat} {a : Int32} (hp : p = 6 ∨ p = 9) (hq : q < 16) (y u : Nat) (hu : u < 16) : anC (putG c p x q a) p y u = if y = x ∧ u = q then a else anC c p y u := by
  unfold anC
  rw [put_kn c hp, put_ans]
  by_cases ey : y = x
  · subst ey
    rw [pk_us, kbS_bit hq]
    by_cases eu : u = q
    · subst eu
      rw [if_pos (show y = y ∧ u = u from ⟨rfl, rfl⟩), if_pos rfl, pk_us]
      by_cases h : a.toInt = -1
      · rw [if_neg (by rw [decide_eq_true_eq]; exact fun h2 => h2 h)]
        exact Int32.toInt_inj.mp (by rw [h]; exact sI_s.1)
      · rw [if_pos (by rw [decide_eq_true_eq]; exact h)]
    · rw [if_neg (show ¬ (y = y ∧ u = q) from fun h => eu h.2), if_neg eu, pk_un (by omega)]
  · rw [if_neg (show ¬ (y = x ∧ u = q) from fun h => ey h.1), pk_un ey, pk_un (by omega)]
theorem put_an2 {c : sm_G} {p p' x q : Nat} {a : Int32} (hp : p = 6 ∧ p' = 9 ∨ p = 9 ∧ p' = 6) (y u : Nat) : anC (putG c p x q a) p' y u = anC c p' y u := by
  unfold anC
  rw [put_A _ _ _ _ _ _ (by omega) (by omega) (by omega), put_A _ _ _ _ _ _ (by omega) (by omega) (by omega)]
theorem put_wL {c : sm_G} {p x q : Nat} {a : Int32} (hp : p = 6 ∨ p = 9) (hl : wL c p) (hn : nQ c ≤ 16) (hq : q < nQ c) : wL (putG c p x q a) p := by
  intro y hy
  obtain ⟨l1, l2, l3⟩ := hl y hy
  show -1 ≤ (rA (putG c p x q a) (p + 1) y).toInt ∧ (rA (putG c p x q a) (p + 1) y).toInt ≤ (nQ c : Int) ∧ ∀ u, bitI (rA (putG c p x q a) (p / 3 + 83) y) u = true → (u : Int) < (rA (putG c p x q a) (p + 1) y).toInt ∧ (rA (putG c p x q a) (p + 2) (y * 16 + u)).toInt ≠ -1
  rw [put_len, put_kn c hp, put_ans]
  by_cases e : y = x
  · subst e
    rw [pk_us, pk_us]
    have hL : (if (rA c (p + 1) y).toInt < ((q + 1 : Nat) : Int) then nI (q + 1) else rA c (p + 1) y).toInt = if (rA c (p + 1) y).toInt < ((q + 1 : Nat) : Int) then ((q + 1 : Nat) : Int) else (rA c (p + 1) y).toInt := by
      split
      · exact nI_t (by omega)
      · rfl
    rw [hL]
    refine ⟨by split <;> omega, by split <;> omega, fun u hu => ?_⟩
    rw [kbS_bit (by omega)] at hu
    by_cases eu : u = q
    · subst eu
      rw [if_pos rfl, decide_eq_true_eq] at hu
      exact ⟨by split <;> omega, by rw [pk_us]; exact hu⟩
    · rw [if_neg eu] at hu
      have h3 := l3 u hu
      exact ⟨by split <;> omega, by rw [pk_un (by omega)]; exact h3.2⟩
  · rw [pk_un e, pk_un e]
    refine ⟨l1, l2, fun u hu => ⟨(l3 u hu).1, ?_⟩⟩
    have h3 := l3 u hu
    rw [pk_un (by omega)]; exact h3.2
theorem put_wL2 {c : sm_G} {p p' x q : Nat} {a : Int32} (hp : p = 6 ∧ p' = 9 ∨ p = 9 ∧ p' = 6) (hl : wL c p') : wL (putG c p x q a) p' := by
  intro y hy
  have h := hl y hy
  rw [put_A _ _ _ _ _ (p' + 1) (by omega) (by omega) (by omega), put_A _ _ _ _ _ (p' / 3 + 83) (by omega) (by omega) (by omega), put_A _ _ _ _ _ (p' + 2) (by omega) (by omega) (by omega)]
  exact h
theorem iv_put {c : sm_G} (h : iv c) {p x q : Nat} {a : Int32} (hp : p = 6 ∨ p = 9) (hx : x < 60) (hq : q < nQ c) (ha : a.toInt = -1 ∨ vAns (rA c 2 q) (rA c 3 q) a) : iv (putG c p x q a) := by
  have hn := (iv_z h).1.2
  obtain ⟨iQ, iR, iT, iC⟩ := h
  have a2 := put_A c p x q a 2 (by omega) (by omega) (by omega)
  have a3 := put_A c p x q a 3 (by omega) (by omega) (by omega)
  have a4 := put_A c p x q a 4 (by omega) (by omega) (by omega)
  have a14 := put_A c p x q a 14 (by omega) (by omega) (by omega)
  have hv : ∀ y u, y < 60 → u < 16 → (anC c p y u).toInt ≠ -1 → vAns (rA c 2 u) (rA c 3 u) (anC c p y u) := fun y u hy hu => by
    rcases hp with rfl | rfl
    · exact iR.2.2.1 y u hy hu
    · exact iR.2.2.2.1 y u hy hu
  have hv2 : ∀ y u, y < 60 → u < 16 → (anC (putG c p x q a) p y u).toInt ≠ -1 → vAns (rA c 2 u) (rA c 3 u) (anC (putG c p x q a) p y u) := fun y u hy hu => by
    rw [put_an hp (by omega) y u hu]
    by_cases e : y = x ∧ u = q
    · rw [if_pos e, e.2]; intro h9
      rcases ha with ha | ha
      · exact absurd ha h9
      · exact ha
    · rw [if_neg e]; exact hv y u hy hu
  refine ⟨⟨iQ.1, by rw [a2, a3, a4]; exact iQ.2⟩, ⟨?_, ?_, ?_, ?_, iR.2.2.2.2.1, by rw [a14]; exact iR.2.2.2.2.2⟩, ?_, ?_⟩
  · rcases hp with rfl | rfl
    · exact put_wL (Or.inl rfl) iR.1 hn hq
    · exact put_wL2 (by omega) iR.1
  · rcases hp with rfl | rfl
    · exact put_wL2 (by omega) iR.2.1
    · exact put_wL (Or.inr rfl) iR.2.1 hn hq
  · intro y u hy hu; rw [a2, a3]
    rcases hp with rfl | rfl
    · exact hv2 y u hy hu
    · rw [put_an2 (by omega)]; exact iR.2.2.1 y u hy hu
  · intro y u hy hu; rw [a2, a3]
    rcases hp with rfl | rfl
    · rw [put_an2 (by omega)]; exact iR.2.2.2.1 y u hy hu
    · exact hv2 y u hy hu
  · rcases hp with rfl | rfl
    · exact iT
    · exact iT
  · rcases hp with rfl | rfl
    · exact iC
    · exact iC
def sp_X10_mark (c : sm_G) : sm_SP := fun as g K => match as with
  | [.ref p, .int b, .int x, .int q, .int a] => p = 53 ∧ CP c g ∧ (isX c b x ∧ okQ c q ∧ (a.toInt = -1 ∨ vAns (rA c 2 (tn q)) (rA c 3 (tn q)) a) → ∀ h, mS g h → CP (putG c (rwP b) (tn x) (tn q) a) h → K (some (.int (nI 1))) h) ∧
      (¬ (isX c b x ∧ okQ c q ∧ (a.toInt = -1 ∨ vAns (rA c 2 (tn q)) (rA c 3 (tn q)) a)) → ∀ h, mS g h → CP c h → K (some (.int (nI 0))) h)
  | _ => False
theorem wf_X10_mark (c : sm_G) : sm_wf lay (yX10_mark, cX10_mark, 6, (some .boolean)) 5 false (sp_X10_mark c) := by
  intro as g K h
  simp only [sp_X10_mark] at h
  split at h
  · exact ⟨Nat.le_of_ble_eq_true rfl, by simp, rfl, fun _ => by obtain rfl := h.1; exact ⟨53, _, 10, [1, 1, 56, 57, 58, 59, 60, 61, 1, 1, 62, 63, 64, 65, 66, 67, 68, 69, 70, 71, 72, 73, 1, 74, 75, 76, 77, 1, 1, 78, 79, 1, 80, 1, 81, 1, 82, 83, 84, 85, 86, 1], TX10, 42, rfl, rfl, rfl⟩⟩
  · exact h.elim
set_option maxHeartbeats 4000000 in
set_option maxRecDepth 100000 in
theorem b_X10_mark (c : sm_G) : sm_body lay NX10_mark 6 1 (sm_cl [(174, sp_X10_rowOf c), (163, sp_X10_isQuestion c), (164, sp_X10_isAnswer c)]) (sp_X10_mark c) := by
  intro K J S hW as g hs
  have hn := n_X10_mark
  have hf := fd_all
  have ha := ar_all
  generalize NX10_mark = N at hn hW
  generalize lay = L at hf ha hW
  obtain ⟨hS, hR⟩ := hW
  simp only [sp_X10_mark] at hs
  split at hs
  case h_2 => exact hs.elim
  simp only [e_args, sm_pad, List.length_cons, List.length_nil, Nat.reduceAdd, Nat.reduceSub, List.replicate_succ, List.replicate_zero, List.cons_append, List.nil_append]
  rename_i p b x q a
  obtain ⟨rfl, h, h1, h2⟩ := hs
  have hn2 := CP_n h
  have z1 := h.1.2.1.2.2.2.2.1
  have z2 := h.1.2.2.1.1
  by_cases hc : isX c b x ∧ okQ c q ∧ (a.toInt = -1 ∨ vAns (rA c 2 (tn q)) (rA c 3 (tn q)) a)
  · have h1 := h1 hc
    clear h2
    obtain ⟨hx, hq, hv⟩ := hc
    have hx60 := isX_60 z1 z2 hx
    obtain ⟨x, hx2, rfl⟩ := sm_in_nI hx60
    obtain ⟨q, hq2, rfl⟩ := ok_nI hq
    rw [tn_nI (by omega), tn_nI (by omega)] at h1
    rw [tn_nI (by omega)] at hv
    have hiv := iv_put h.1 (rwP_or b) hx2 hq2 hv
    obtain ⟨i, cq, ⟨q1, q2, q3, q4, q5, q6, q7, q8⟩, ct, cc⟩ := id h
    have l6 := i.2.1.1 x hx2
    have l9 := i.2.1.2.1 x hx2
    simp only [Nat.reduceAdd] at l6 l9
    by_cases e : b.toInt = 0
    · have hcp : ∀ F : Nat → Int32, (∀ y, F y = if y = x then (if (rA c 10 x).toInt < ((q + 1 : Nat) : Int) then nI (q + 1) else rA c 10 x) else rA g 59 y) → K (some (.int (nI 1))) (gS (gA (gA g 58 (upd (rA g 58) (16 * x + q) a)) 59 F) 53 1000 (nI 0)) := fun F hF => by
        refine h1 _ (mS_S (mS_A (mS_A (mS_rf g) (by omega)) (by omega))) ⟨hiv, ?_, ⟨q1, fun y u hy hu => ?_, fun y u hy hu => ?_, fun y hy => ?_, fun y hy => ?_, ?_, ?_, q8⟩, ?_, ?_⟩
        · simp only [rwP, e, if_true]; exact cq
        · show upd (rA g 58) (16 * x + q) a (16 * (60 + y) + u) = _
          simp only [rwP, e, if_true]
          rw [pk_un (by omega), put_an2 (by omega)]; exact q2 y u hy hu
        · show upd (rA g 58) (16 * x + q) a (16 * y + u) = _
          simp only [rwP, e, if_true]
          rw [put_an (by omega) (by omega) y u hu]
          by_cases e2 : y = x ∧ u = q
          · rw [if_pos e2, e2.1, e2.2, pk_us]
          · rw [if_neg e2, pk_un (by omega)]; exact q3 y u hy hu
        · show F (60 + y) = _
          simp only [rwP, e, if_true]
          rw [hF, if_neg (by omega), put_A _ _ _ _ _ _ (by omega) (by omega) (by omega)]; exact q4 y hy
        · show F y = _
          simp only [rwP, e, if_true]
          rw [hF, put_len c 9 x q a]
          by_cases e2 : y = x
          · rw [if_pos e2, e2, pk_us]
          · rw [if_neg e2, pk_un e2]; exact q5 y hy
        · simp only [rwP, e, if_true]; exact q6
        · simp only [rwP, e, if_true]; exact q7
        · simp only [rwP, e, if_true]; exact ct
        · simp only [rwP, e, if_true]; exact cc
      have e59 := q5 x hx2
      have c1 : (rA c 10 x).toInt < ((q + 1 : Nat) : Int) → K (some (.int (nI 1))) (gS (gA (gA g 58 (upd (rA g 58) (16 * x + q) a)) 59 (upd (rA g 59) x (nI (q + 1)))) 53 1000 (nI 0)) := fun hl => hcp _ (fun y => by
        by_cases e2 : y = x
        · rw [e2, pk_us, if_pos rfl, if_pos hl]
        · rw [pk_un e2, if_neg e2])
      have c0 : ¬ (rA c 10 x).toInt < ((q + 1 : Nat) : Int) → K (some (.int (nI 1))) (gS (gA g 58 (upd (rA g 58) (16 * x + q) a)) 53 1000 (nI 0)) := fun hl => by
        have := hcp (rA g 59) (fun y => by
          by_cases e2 : y = x
          · rw [if_pos e2, if_neg hl, e2]; exact e59
          · rw [if_neg e2])
        rw [show rA g 59 = rA (gA g 58 (upd (rA g 58) (16 * x + q) a)) 59 from rfl, gA_self] at this
        exact this
      clear h1 hcp hiv q2 q3
      apply hR 90
      simp (maxSteps := 10000000) (disch := omega) only [hS, hn, sm_eqs, hf, ha, sm_b0, Int.reduceToNat, ↓reduceIte, Nat.reduceEqDiff, true_and, and_true, List.length_nil, List.length_cons, Nat.reduceAdd, Nat.reduceLeDiff, Nat.zero_le, false_implies, true_implies, not_true_eq_false, not_false_eq_true, implies_true, Nat.reduceSub, Nat.reduceMul, Nat.reduceDiv, reduceCtorEq, tn_clamp, nI_t, tn_nI, nI_add, pk_mul, rS_gS, rS_gA, rS_gL, rA_gS, rA_gA, rA_gL, rL_gS, rL_gA, rL_gL, and_self, and_false, false_and, if_true, if_false, true_or, or_true, or_false, false_or, sm_in, eqI, sI_s, Int32.toInt_zero, Int.natCast_zero, Int.natCast_one, Int.cast_ofNat_Int, Int.reduceEq, Int.reduceLT, Int.reduceLE, Int.reduceNeg, Int.reduceNe, ne_eq, n_up, g_up, e_cat, fr_A, fr_O, fr_P, fr_L, sp_X10_rowOf, sp_X10_isQuestion, sp_X10_isAnswer, h, cp_fr, hx, hq, e, e59]
      clear hn hf ha hS hR
      repeat' (first | (with_reducible refine And.intro ?_ ?_) | (with_reducible intro _))
      all_goals (first | with_reducible assumption | omega | (exfalso; omega) | grind)
    · have hcp : ∀ F : Nat → Int32, (∀ y, F y = if y = 60 + x then (if (rA c 7 x).toInt < ((q + 1 : Nat) : Int) then nI (q + 1) else rA c 7 x) else rA g 59 y) → K (some (.int (nI 1))) (gS (gA (gA g 58 (upd (rA g 58) (16 * (60 + x) + q) a)) 59 F) 53 1000 (nI 0)) := fun F hF => by
        refine h1 _ (mS_S (mS_A (mS_A (mS_rf g) (by omega)) (by omega))) ⟨hiv, ?_, ⟨q1, fun y u hy hu => ?_, fun y u hy hu => ?_, fun y hy => ?_, fun y hy => ?_, ?_, ?_, q8⟩, ?_, ?_⟩
        · simp only [rwP, e, if_false]; exact cq
        · show upd (rA g 58) (16 * (60 + x) + q) a (16 * (60 + y) + u) = _
          simp only [rwP, e, if_false]
          rw [put_an (by omega) (by omega) y u hu]
          by_cases e2 : y = x ∧ u = q
          · rw [if_pos e2, e2.1, e2.2, pk_us]
          · rw [if_neg e2, pk_un (by omega)]; exact q2 y u hy hu
        · show upd (rA g 58) (16 * (60 + x) + q) a (16 * y + u) = _
          simp only [rwP, e, if_false]
          rw [pk_un (by omega), put_an2 (by omega)]; exact q3 y u hy hu
        · show F (60 + y) = _
          simp only [rwP, e, if_false]
          rw [hF, put_len c 6 x q a]
          by_cases e2 : y = x
          · rw [if_pos (show 60 + y = 60 + x by omega), e2, pk_us]
          · rw [if_neg (show ¬ 60 + y = 60 + x by omega), pk_un e2]; exact q4 y hy
        · show F y = _
          simp only [rwP, e, if_false]
          rw [hF, if_neg (by omega), put_A _ _ _ _ _ _ (by omega) (by omega) (by omega)]; exact q5 y hy
        · simp only [rwP, e, if_false]; exact q6
        · simp only [rwP, e, if_false]; exact q7
        · simp only [rwP, e, if_false]; exact ct
        · simp only [rwP, e, if_false]; exact cc
      have e59 := q4 x hx2
      have c1 : (rA c 7 x).toInt < ((q + 1 : Nat) : Int) → K (some (.int (nI 1))) (gS (gA (gA g 58 (upd (rA g 58) (16 * (60 + x) + q) a)) 59 (upd (rA g 59) (60 + x) (nI (q + 1)))) 53 1000 (nI 0)) := fun hl => hcp _ (fun y => by
        by_cases e2 : y = 60 + x
        · rw [e2, pk_us, if_pos rfl, if_pos hl]
        · rw [pk_un e2, if_neg e2])
      have c0 : ¬ (rA c 7 x).toInt < ((q + 1 : Nat) : Int) → K (some (.int (nI 1))) (gS (gA g 58 (upd (rA g 58) (16 * (60 + x) + q) a)) 53 1000 (nI 0)) := fun hl => by
        have := hcp (rA g 59) (fun y => by
          by_cases e2 : y = 60 + x
          · rw [if_pos e2, if_neg hl, e2]; exact e59
          · rw [if_neg e2])
        rw [show rA g 59 = rA (gA g 58 (upd (rA g 58) (16 * (60 + x) + q) a)) 59 from rfl, gA_self] at this
        exact this
      clear h1 hcp hiv q2 q3
      apply hR 90
      simp (maxSteps := 10000000) (disch := omega) only [hS, hn, sm_eqs, hf, ha, sm_b0, Int.reduceToNat, ↓reduceIte, Nat.reduceEqDiff, true_and, and_true, List.length_nil, List.length_cons, Nat.reduceAdd, Nat.reduceLeDiff, Nat.zero_le, false_implies, true_implies, not_true_eq_false, not_false_eq_true, implies_true, Nat.reduceSub, Nat.reduceMul, Nat.reduceDiv, reduceCtorEq, tn_clamp, nI_t, tn_nI, nI_add, pk_mul, rS_gS, rS_gA, rS_gL, rA_gS, rA_gA, rA_gL, rL_gS, rL_gA, rL_gL, and_self, and_false, false_and, if_true, if_false, true_or, or_true, or_false, false_or, sm_in, eqI, sI_s, Int32.toInt_zero, Int.natCast_zero, Int.natCast_one, Int.cast_ofNat_Int, Int.reduceEq, Int.reduceLT, Int.reduceLE, Int.reduceNeg, Int.reduceNe, ne_eq, n_up, g_up, e_cat, fr_A, fr_O, fr_P, fr_L, sp_X10_rowOf, sp_X10_isQuestion, sp_X10_isAnswer, h, cp_fr, hx, hq, e, e59]
      clear hn hf ha hS hR
      repeat' (first | (with_reducible refine And.intro ?_ ?_) | (with_reducible intro _))
      all_goals (first | with_reducible assumption | omega | (exfalso; omega) | grind)
  · have h2 := h2 hc (gS g 53 1000 (nI 0)) (mS_S (mS_rf g)) h
    clear h1
    have hc2 : isX c b x → x = nI (tn x) := fun hx => nI_tn (by have := isX_60 z1 z2 hx; exact this.1)
    by_cases hx : isX c b x
    · have hx60 := isX_60 z1 z2 hx
      have hpos : ¬ (nI (if b.toInt = 0 then tn x else 60 + tn x)).toInt = -1 := by
        unfold sm_in at hx60
        rw [nI_t (by split <;> unfold tn <;> omega)]; split <;> omega
      apply hR 90
      simp (maxSteps := 10000000) (disch := omega) only [hS, hn, sm_eqs, hf, ha, sm_b0, Int.reduceToNat, ↓reduceIte, Nat.reduceEqDiff, true_and, and_true, List.length_nil, List.length_cons, Nat.reduceAdd, Nat.reduceLeDiff, Nat.zero_le, false_implies, true_implies, not_true_eq_false, not_false_eq_true, implies_true, Nat.reduceSub, Nat.reduceMul, Nat.reduceDiv, reduceCtorEq, tn_clamp, nI_t, tn_nI, nI_add, pk_mul, rS_gS, rS_gA, rS_gL, rA_gS, rA_gA, rA_gL, rL_gS, rL_gA, rL_gL, and_self, and_false, false_and, if_true, if_false, true_or, or_true, or_false, false_or, sm_in, eqI, sI_s, Int32.toInt_zero, Int.natCast_zero, Int.natCast_one, Int.cast_ofNat_Int, Int.reduceEq, Int.reduceLT, Int.reduceLE, Int.reduceNeg, Int.reduceNe, ne_eq, n_up, g_up, e_cat, fr_A, fr_O, fr_P, fr_L, sp_X10_rowOf, sp_X10_isQuestion, sp_X10_isAnswer, h, cp_fr, hx, hpos]
      clear hn hf ha hS hR
      exact ⟨fun q1 => ⟨fun e => absurd ⟨hx, q1, Or.inl e⟩ hc, fun e => ⟨q1, fun v => absurd ⟨hx, q1, Or.inr v⟩ hc, fun _ => h2⟩⟩, fun _ => h2⟩
    · apply hR 90
      simp (maxSteps := 10000000) (disch := omega) only [hS, hn, sm_eqs, hf, ha, sm_b0, Int.reduceToNat, ↓reduceIte, Nat.reduceEqDiff, true_and, and_true, List.length_nil, List.length_cons, Nat.reduceAdd, Nat.reduceLeDiff, Nat.zero_le, false_implies, true_implies, not_true_eq_false, not_false_eq_true, implies_true, Nat.reduceSub, Nat.reduceMul, Nat.reduceDiv, reduceCtorEq, tn_clamp, nI_t, tn_nI, nI_add, pk_mul, rS_gS, rS_gA, rS_gL, rA_gS, rA_gA, rA_gL, rL_gS, rL_gA, rL_gL, and_self, and_false, false_and, if_true, if_false, true_or, or_true, or_false, false_or, sm_in, eqI, sI_s, Int32.toInt_zero, Int.natCast_zero, Int.natCast_one, Int.cast_ofNat_Int, Int.reduceEq, Int.reduceLT, Int.reduceLE, Int.reduceNeg, Int.reduceNe, ne_eq, n_up, g_up, e_cat, fr_A, fr_O, fr_P, fr_L, sp_X10_rowOf, sp_X10_isQuestion, sp_X10_isAnswer, h, cp_fr, hx]
      clear hn hf ha hS hR
      repeat' (first | (with_reducible refine And.intro ?_ ?_) | (with_reducible intro _))
      all_goals (first | with_reducible assumption | omega | (exfalso; omega) | grind)
theorem ok_X10_mark (l : Launch) (c : sm_G) : sm_spok l lay sm_mt 4 175 (sp_X10_mark c) := Or.inr (Or.inr (Or.inr ⟨by decide, by decide, by
  rw [mt_175]
  exact sm_method (T := TX10_) v_cok v_lok v_ka v_tok_X10 mok_X10_mark rfl (by unfold sm_rk; simp) (wf_X10_mark c) (List.forall_mem_cons.mpr ⟨sm_spok_up (Nat.le_of_ble_eq_true rfl : 3 ≤ 3) (ok_X10_rowOf l c), List.forall_mem_cons.mpr ⟨sm_spok_up (Nat.le_of_ble_eq_true rfl : 2 ≤ 3) (ok_X10_isQuestion l c), List.forall_mem_cons.mpr ⟨sm_spok_up (Nat.le_of_ble_eq_true rfl : 2 ≤ 3) (ok_X10_isAnswer l c), fun _ h => absurd h List.not_mem_nil⟩⟩⟩) (b_X10_mark c)⟩))
