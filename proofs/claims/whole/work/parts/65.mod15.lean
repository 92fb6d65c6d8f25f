/-! The reference: moves. -/
theorem iv_rank {c : sm_G} (h : iv c) : ∃ rk : Nat → Nat, (∀ t, t < nT c → rk t < 60) ∧ (∀ t, t < nT c → bgC c t ≠ -1 → rk (tn (rA c 19 t)) < rk t) := by
  obtain ⟨rk, hrk⟩ := h.2.2.1.2.2.2.2.2.2.2.2.1
  have hz := h.2.2.1.1.2
  refine ⟨fun t => cnt (fun x => dc (rk x < rk t)) (nT c), fun t ht => ?_, fun t ht hb => ?_⟩
  · have := cnt_lt (nT c) (f := fun x => dc (rk x < rk t)) (h := fun _ => true) (fun _ _ _ => rfl) ⟨t, ht, dc_f.mpr (by omega), rfl⟩
    have h2 := cnt_le (fun _ => true) (nT c)
    (try dsimp only)
    omega
  · have hl := hrk t ht hb
    rcases h.2.2.1.2.2.2.2.2.1 t ht with e | ⟨b, b1, b2, _⟩
    · exact absurd e hb
    · rw [b2, tn_nI (by omega)] at hl ⊢
      exact cnt_lt (nT c) (fun i hi hx => dc_t.mpr (by have := dc_t.mp hx; omega)) ⟨b, b1, dc_f.mpr (by omega), dc_t.mpr hl⟩
theorem hld_none {c : sm_G} {o x : Int32} (hx : x.toInt = -1) : ∀ n, ¬ hld c o n x := by
  intro n
  cases n with
  | zero => exact fun h => h
  | succ n => exact fun h => h.1 hx
theorem hld_fuel {c : sm_G} (h : iv c) {rk : Nat → Nat} (hrk : ∀ t, t < nT c → bgC c t ≠ -1 → rk (tn (rA c 19 t)) < rk t) (o : Int32) : ∀ n m x, x < nT c → rk x < n → rk x < m → (hld c o n (nI x) ↔ hld c o m (nI x)) := by
  have hz := h.2.2.1.1.2
  intro n
  induction n with
  | zero => intro m x _ hn; omega
  | succ n ih =>
    intro m x hx hn hm
    cases m with
    | zero => omega
    | succ m =>
      unfold hld
      rw [tn_nI (by omega)]
      have key : hld c o n (rA c 19 x) ↔ hld c o m (rA c 19 x) := by
        rcases h.2.2.1.2.2.2.2.2.1 x hx with e | ⟨b, b1, b2, _⟩
        · exact ⟨fun a => absurd a (hld_none e n), fun a => absurd a (hld_none e m)⟩
        · have hl := hrk x hx (by unfold bgC; rw [b2, nI_t (by omega)]; omega)
          rw [b2, tn_nI (by omega)] at hl
          rw [b2]; exact ih m b b1 (by omega) (by omega)
      rw [key]
theorem hld_s {c : sm_G} (h : iv c) {o : Int32} {x : Nat} (hx : x < nT c) : hld c o 60 (nI x) ↔ ((x : Int) = o.toInt ∨ (x : Int) ≠ o.toInt ∧ hld c o 60 (rA c 19 x)) := by
  have hz := h.2.2.1.1.2
  obtain ⟨rk, r1, r2⟩ := iv_rank h
  have hok : okT c (nI x) := by unfold okT; rw [nI_t (by omega)]; omega
  have e1 : hld c o 60 (nI x) ↔ ((x : Int) = o.toInt ∨ (x : Int) ≠ o.toInt ∧ hld c o 59 (rA c 19 x)) := by
    show (nI x).toInt ≠ -1 ∧ _ ↔ _
    rw [nI_t (by omega), tn_nI (by omega)]
    constructor
    · rintro ⟨_, h1 | ⟨h1, _, h2⟩⟩
      · exact Or.inl h1
      · exact Or.inr ⟨h1, h2⟩
    · rintro (h1 | ⟨h1, h2⟩)
      · exact ⟨by omega, Or.inl h1⟩
      · exact ⟨by omega, Or.inr ⟨h1, hok, h2⟩⟩
  rw [e1]
  have key : hld c o 59 (rA c 19 x) ↔ hld c o 60 (rA c 19 x) := by
    rcases h.2.2.1.2.2.2.2.2.1 x hx with e | ⟨b, b1, b2, _⟩
    · exact ⟨fun a => absurd a (hld_none e 59), fun a => absurd a (hld_none e 60)⟩
    · have hl := r2 x hx (by unfold bgC; rw [b2, nI_t (by omega)]; omega)
      have hx60 := r1 x hx
      rw [b2, tn_nI (by omega)] at hl
      rw [b2]; exact hld_fuel h r2 o 59 60 b b1 (by omega) (by omega)
  rw [key]
def mvG (c : sm_G) (t : Nat) (b : Int32) : sm_G := gA c 19 (upd (rA c 19) t b)
theorem iv_mv {c : sm_G} (h : iv c) {t : Nat} {b : Int32} (ht : t < nT c) (hy : whyC c t = -1) (hb : b.toInt = -1 ∨ (hereC c b ∧ (rA c 16 (tn b)).toInt = 1) ∧ ¬ hld c (nI t) 60 b) : iv (mvG c t b) := by
  have hz := h.2.2.1.1.2
  obtain ⟨rk, r1, r2⟩ := iv_rank h
  have hs := fun x hx => hld_s h (o := nI t) (x := x) hx
  have h0 := h
  obtain ⟨iQ, iR, ⟨t1, t2, t3, t4, t5, t6, t7, t8, t9, t10⟩, iC⟩ := h
  have bg : ∀ x, bgC (mvG c t b) x = if x = t then b.toInt else bgC c x := fun x => by
    unfold bgC mvG; rw [rA_gA, if_pos rfl]
    by_cases e : x = t
    · rw [if_pos e, e, pk_us]
    · rw [if_neg e, pk_un e]
  have a19 : rA (mvG c t b) 19 = upd (rA c 19) t b := by unfold mvG; rw [rA_gA, if_pos rfl]
  refine ⟨iQ, iR, ⟨t1, t2, t3, t4, t5, fun x hx => ?_, fun x hx hw => ?_, t8, ?_, t10⟩, iC⟩
  · rw [bg]
    by_cases e : x = t
    · rw [if_pos e]
      rcases hb with hb | ⟨⟨hb1, hb2⟩, _⟩
      · exact Or.inl hb
      · obtain ⟨j, hj, ej⟩ := ok_nI hb1.1
        have hw2 := hb1.2
        rw [ej, tn_nI (by omega)] at hb2 hw2
        exact Or.inr ⟨j, hj, by rw [a19, e, pk_us]; exact ej, hb2, hw2⟩
    · rw [if_neg e]
      rcases t6 x hx with h | ⟨j, j1, j2, j3, j4⟩
      · exact Or.inl h
      · exact Or.inr ⟨j, j1, by rw [a19, pk_un e]; exact j2, j3, j4⟩
  · rw [bg]
    by_cases e : x = t
    · rw [e] at hw; exact absurd hy hw
    · rw [if_neg e]; exact t7 x hx hw
  · refine ⟨fun x => rk x + (if dc (hld c (nI t) 60 (nI x)) = true then rk (tn b) + 1 else 0), fun x hx hbx => ?_⟩
    rw [bg] at hbx; rw [a19]
    (try dsimp only)
    by_cases e : x = t
    · rw [if_pos e] at hbx
      rcases hb with hb | ⟨⟨hb1, _⟩, hb3⟩
      · exact absurd hb hbx
      · obtain ⟨j, hj, ej⟩ := ok_nI hb1.1
        have htt : hld c (nI t) 60 (nI t) := (hs t ht).mpr (Or.inl (nI_t (by omega)).symm)
        rw [e, pk_us, if_pos (dc_t.mpr htt), ej, tn_nI (by omega)]
        rw [ej] at hb3
        rw [if_neg (fun h => hb3 (dc_t.mp h))]; omega
    · rw [if_neg e] at hbx
      have hl := r2 x hx hbx
      rw [pk_un e]
      rcases t6 x hx with h | ⟨j, j1, j2, j3, j4⟩
      · exact absurd h hbx
      · have hiff : hld c (nI t) 60 (nI x) ↔ hld c (nI t) 60 (nI j) := by
          rw [hs x hx, j2, nI_t (by omega)]
          constructor
          · rintro (h1 | h1)
            · exact absurd (show x = t by omega) e
            · exact h1.2
          · intro h1; exact Or.inr ⟨by omega, h1⟩
        rw [j2, tn_nI (by omega)] at hl ⊢
        by_cases hh : hld c (nI t) 60 (nI x)
        · rw [if_pos (dc_t.mpr hh), if_pos (dc_t.mpr (hiff.mp hh))]; omega
        · rw [if_neg (fun h => hh (dc_t.mp h)), if_neg (fun h => hh (hiff.mpr (dc_t.mp h)))]; omega
theorem CP_mv {c g : sm_G} (h : CP c g) {t : Nat} {b : Int32} (ht : t < nT c) (hy : whyC c t = -1) (hb : b.toInt = -1 ∨ (hereC c b ∧ (rA c 16 (tn b)).toInt = 1) ∧ ¬ hld c (nI t) 60 b) {s : Int32} (hs : s = nI (if b.toInt = -1 then 0 else 1)) : CP (mvG c t b) (gA (gA g 63 (upd (rA g 63) t s)) 64 (upd (rA g 64) t b)) := by
  have hiv := iv_mv h.1 ht hy hb
  obtain ⟨i, cq, cr, ⟨q1, q2, q3, q4, q5, q6, q7, q8, q9, q10, q11, q12, q13⟩, cc⟩ := h
  have a19 : rA (mvG c t b) 19 = upd (rA c 19) t b := by unfold mvG; rw [rA_gA, if_pos rfl]
  refine ⟨hiv, cq, cr, ⟨q1, q2, q3, q4, q5, fun x hx => ?_, fun x hx => ?_, q8, q9, q10, q11, q12, q13⟩, cc⟩
  · show upd (rA g 63) t s x = nI (whC (mvG c t b) x)
    unfold whC; rw [a19, show rA (mvG c t b) 23 = rA c 23 from rfl]
    by_cases e : x = t
    · unfold whyC at hy
      rw [e, pk_us, pk_us, if_pos hy]; exact hs
    · rw [pk_un e, pk_un e]; exact q6 x hx
  · show upd (rA g 64) t b x = _
    rw [a19]
    by_cases e : x = t
    · rw [e, pk_us, pk_us]
    · rw [pk_un e, pk_un e]; exact q7 x hx
def sp_X10_into (c : sm_G) : sm_SP := fun as g K => match as with
  | [.ref p, .int t, .int b] => p = 53 ∧ CP c g ∧ (hereC c t ∧ (b.toInt = -1 ∨ (hereC c b ∧ (rA c 16 (tn b)).toInt = 1) ∧ ¬ hld c t 60 b) → ∀ h, mS g h → CP (mvG c (tn t) b) h → K (some (.int (nI 1))) h) ∧ (¬ (hereC c t ∧ (b.toInt = -1 ∨ (hereC c b ∧ (rA c 16 (tn b)).toInt = 1) ∧ ¬ hld c t 60 b)) → ∀ h, mS g h → CP c h → K (some (.int (nI 0))) h)
  | _ => False
theorem wf_X10_into (c : sm_G) : sm_wf lay (yX10_into, cX10_into, 4, (some .boolean)) 3 false (sp_X10_into c) := by
  intro as g K h
  simp only [sp_X10_into] at h
  split at h
  · exact ⟨Nat.le_of_ble_eq_true rfl, by simp, rfl, fun _ => by obtain rfl := h.1; exact ⟨53, _, 10, [1, 1, 56, 57, 58, 59, 60, 61, 1, 1, 62, 63, 64, 65, 66, 67, 68, 69, 70, 71, 72, 73, 1, 74, 75, 76, 77, 1, 1, 78, 79, 1, 80, 1, 81, 1, 82, 83, 84, 85, 86, 1], TX10, 42, rfl, rfl, rfl⟩⟩
  · exact h.elim
set_option maxHeartbeats 4000000 in
set_option maxRecDepth 100000 in
theorem b_X10_into (c : sm_G) : sm_body lay NX10_into 4 1 (sm_cl [(168, sp_X10_isThing c), (170, sp_X10_isOut c), (171, sp_X10_isBag c)]) (sp_X10_into c) := by
  intro K J S hW as g hs
  have hn := n_X10_into
  have hf := fd_all
  have ha := ar_all
  generalize NX10_into = N at hn hW
  generalize lay = L at hf ha hW
  obtain ⟨hS, hR⟩ := hW
  simp only [sp_X10_into] at hs
  split at hs
  case h_2 => exact hs.elim
  simp only [e_args, sm_pad, List.length_cons, List.length_nil, Nat.reduceAdd, Nat.reduceSub, List.replicate_succ, List.replicate_zero, List.cons_append, List.nil_append]
  rename_i p t b
  obtain ⟨rfl, h, h1, h2⟩ := hs
  have hn2 := CP_n h
  have h0 := fun a => h2 a _ (mS_S (k := 1000) (v := nI 0) (mS_rf g)) h
  clear h2
  by_cases hh : hereC c t
  · obtain ⟨t, ht, rfl⟩ := ok_nI hh.1
    have hot := hh.1
    have hy : whyC c t = -1 := by have := hh.2; rw [tn_nI (by omega)] at this; exact this
    rw [tn_nI (by omega)] at h1
    by_cases hb : b.toInt = -1 ∨ (hereC c b ∧ (rA c 16 (tn b)).toInt = 1)
    · have hk1 : (b.toInt = -1 ∨ ¬ hld c (nI t) 60 b) → ∀ s, s = nI (if b.toInt = -1 then 0 else 1) → K (some (.int (nI 1))) (gS (gA (gA g 63 (upd (rA g 63) t s)) 64 (upd (rA g 64) t b)) 53 1000 (nI 0)) := fun a s hs => by
        have hb2 : b.toInt = -1 ∨ (hereC c b ∧ (rA c 16 (tn b)).toInt = 1) ∧ ¬ hld c (nI t) 60 b := by
          rcases hb with hb | hb
          · exact Or.inl hb
          · rcases a with a | a
            · exact Or.inl a
            · exact Or.inr ⟨hb, a⟩
        exact h1 ⟨hh, hb2⟩ _ (mS_S (mS_A (mS_A (mS_rf g) (by omega)) (by omega))) (CP_mv h ht hy hb2 hs)
      have hk0 : ¬ b.toInt = -1 → hld c (nI t) 60 b → K (some (.int (nI 0))) (gS g 53 1000 (nI 0)) := fun a d => h0 (fun x => by
        rcases x.2 with x | x
        · exact a x
        · exact x.2 d)
      clear h1 h0
      obtain ⟨rk, r1, r2⟩ := iv_rank h.1
      have stop : (b.toInt = -1 ∨ ¬ hld c (nI t) 60 b) → ∀ y : Int32, y.toInt = -1 → J 38 [some (.ref 53), some (.int (nI t)), some (.int b), some (.int y)] [] (gS g 53 1000 (nI 0)) := fun a y hy1 => by
        have q0 := fun e : b.toInt = -1 => hk1 a (nI 0) (by rw [if_pos e])
        have q1 := fun e : ¬ b.toInt = -1 => hk1 a (nI 1) (by rw [if_neg e])
        clear hk1 hk0
        apply hR 60
        simp (maxSteps := 10000000) (disch := omega) only [hS, hn, sm_eqs, hf, ha, sm_b0, Int.reduceToNat, ↓reduceIte, Nat.reduceEqDiff, true_and, and_true, List.length_nil, List.length_cons, Nat.reduceAdd, Nat.reduceLeDiff, Nat.zero_le, false_implies, true_implies, not_true_eq_false, not_false_eq_true, implies_true, Nat.reduceSub, Nat.reduceMul, Nat.reduceDiv, reduceCtorEq, tn_clamp, nI_t, tn_nI, nI_add, pk_mul, rS_gS, rS_gA, rS_gL, rA_gS, rA_gA, rA_gL, rL_gS, rL_gA, rL_gL, and_self, and_false, false_and, if_true, if_false, true_or, or_true, or_false, false_or, sm_in, eqI, sI_s, Int32.toInt_zero, Int.natCast_zero, Int.natCast_one, Int.cast_ofNat_Int, Int.reduceEq, Int.reduceLT, Int.reduceLE, Int.reduceNeg, Int.reduceNe, ne_eq, n_up, g_up, e_cat, fr_A, fr_O, fr_P, fr_L, sp_X10_isThing, sp_X10_isOut, sp_X10_isBag, hy1]
        clear hn hf ha hS hR
        repeat' (first | (with_reducible refine And.intro ?_ ?_) | (with_reducible intro _))
        all_goals (first | with_reducible assumption | omega | (exfalso; omega) | grind)
      have loop : ∀ n x, x < nT c → rk x < n → (hld c (nI t) 60 (nI x) ↔ hld c (nI t) 60 b) → ¬ b.toInt = -1 → J 38 [some (.ref 53), some (.int (nI t)), some (.int b), some (.int (nI x))] [] (gS g 53 1000 (nI 0)) := by
        intro n
        induction n with
        | zero => intro x _ hn9; omega
        | succ n ih =>
          intro x hx hn9 hiff hb1
          have hsx := hld_s h.1 (o := nI t) hx
          rw [nI_t (by omega)] at hsx
          have e64 := h.2.2.2.1.2.2.2.2.2.2.1 x hx
          have hx1 : ¬ (x : Int) = -1 := by omega
          by_cases e : (x : Int) = (t : Int)
          · have hk0 := hk0 hb1 (hiff.mp (hsx.mpr (Or.inl e)))
            clear ih stop hk1
            apply hR 60
            simp (maxSteps := 10000000) (disch := omega) only [hS, hn, sm_eqs, hf, ha, sm_b0, Int.reduceToNat, ↓reduceIte, Nat.reduceEqDiff, true_and, and_true, List.length_nil, List.length_cons, Nat.reduceAdd, Nat.reduceLeDiff, Nat.zero_le, false_implies, true_implies, not_true_eq_false, not_false_eq_true, implies_true, Nat.reduceSub, Nat.reduceMul, Nat.reduceDiv, reduceCtorEq, tn_clamp, nI_t, tn_nI, nI_add, pk_mul, rS_gS, rS_gA, rS_gL, rA_gS, rA_gA, rA_gL, rL_gS, rL_gA, rL_gL, and_self, and_false, false_and, if_true, if_false, true_or, or_true, or_false, false_or, sm_in, eqI, sI_s, Int32.toInt_zero, Int.natCast_zero, Int.natCast_one, Int.cast_ofNat_Int, Int.reduceEq, Int.reduceLT, Int.reduceLE, Int.reduceNeg, Int.reduceNe, ne_eq, n_up, g_up, e_cat, fr_A, fr_O, fr_P, fr_L, sp_X10_isThing, sp_X10_isOut, sp_X10_isBag, e64, hx1, e]
            clear hn hf ha hS hR
            repeat' (first | (with_reducible refine And.intro ?_ ?_) | (with_reducible intro _))
            all_goals (first | with_reducible assumption | omega | (exfalso; omega) | grind)
          · have hnx : J 38 [some (.ref 53), some (.int (nI t)), some (.int b), some (.int (rA c 19 x))] [] (gS g 53 1000 (nI 0)) := by
              have hi2 : hld c (nI t) 60 (rA c 19 x) ↔ hld c (nI t) 60 b := by
                rw [← hiff, hsx]
                exact ⟨fun a => Or.inr ⟨e, a⟩, fun a => by rcases a with a | a; exact absurd a e; exact a.2⟩
              rcases h.1.2.2.1.2.2.2.2.2.1 x hx with e9 | ⟨y, y1, y2, _⟩
              · exact stop (Or.inr (fun a => hld_none e9 60 (hi2.mpr a))) _ e9
              · have hl := r2 x hx (by unfold bgC; rw [y2, nI_t (by omega)]; omega)
                rw [y2] at hl hi2 ⊢
                rw [tn_nI (by omega)] at hl
                exact ih y y1 (by omega) hi2 hb1
            clear ih stop hk1 hk0
            apply hR 60
            simp (maxSteps := 10000000) (disch := omega) only [hS, hn, sm_eqs, hf, ha, sm_b0, Int.reduceToNat, ↓reduceIte, Nat.reduceEqDiff, true_and, and_true, List.length_nil, List.length_cons, Nat.reduceAdd, Nat.reduceLeDiff, Nat.zero_le, false_implies, true_implies, not_true_eq_false, not_false_eq_true, implies_true, Nat.reduceSub, Nat.reduceMul, Nat.reduceDiv, reduceCtorEq, tn_clamp, nI_t, tn_nI, nI_add, pk_mul, rS_gS, rS_gA, rS_gL, rA_gS, rA_gA, rA_gL, rL_gS, rL_gA, rL_gL, and_self, and_false, false_and, if_true, if_false, true_or, or_true, or_false, false_or, sm_in, eqI, sI_s, Int32.toInt_zero, Int.natCast_zero, Int.natCast_one, Int.cast_ofNat_Int, Int.reduceEq, Int.reduceLT, Int.reduceLE, Int.reduceNeg, Int.reduceNe, ne_eq, n_up, g_up, e_cat, fr_A, fr_O, fr_P, fr_L, sp_X10_isThing, sp_X10_isOut, sp_X10_isBag, e64, hx1, e]
            clear hn hf ha hS hR
            repeat' (first | (with_reducible refine And.intro ?_ ?_) | (with_reducible intro _))
            all_goals (first | with_reducible assumption | omega | (exfalso; omega) | grind)
      have q0 : J 38 [some (.ref 53), some (.int (nI t)), some (.int b), some (.int b)] [] (gS g 53 1000 (nI 0)) := by
        rcases hb with hb | hb
        · exact stop (Or.inl hb) b hb
        · obtain ⟨j, hj, ej⟩ := ok_nI hb.1.1
          rw [ej]
          rw [ej] at loop
          exact loop _ j hj (Nat.lt_succ_self _) Iff.rfl (by rw [nI_t (by omega)]; omega)
      clear loop stop hk1 hk0
      apply hR 60
      simp (maxSteps := 10000000) (disch := omega) only [hS, hn, sm_eqs, hf, ha, sm_b0, Int.reduceToNat, ↓reduceIte, Nat.reduceEqDiff, true_and, and_true, List.length_nil, List.length_cons, Nat.reduceAdd, Nat.reduceLeDiff, Nat.zero_le, false_implies, true_implies, not_true_eq_false, not_false_eq_true, implies_true, Nat.reduceSub, Nat.reduceMul, Nat.reduceDiv, reduceCtorEq, tn_clamp, nI_t, tn_nI, nI_add, pk_mul, rS_gS, rS_gA, rS_gL, rA_gS, rA_gA, rA_gL, rL_gS, rL_gA, rL_gL, and_self, and_false, false_and, if_true, if_false, true_or, or_true, or_false, false_or, sm_in, eqI, sI_s, Int32.toInt_zero, Int.natCast_zero, Int.natCast_one, Int.cast_ofNat_Int, Int.reduceEq, Int.reduceLT, Int.reduceLE, Int.reduceNeg, Int.reduceNe, ne_eq, n_up, g_up, e_cat, fr_A, fr_O, fr_P, fr_L, sp_X10_isThing, sp_X10_isOut, sp_X10_isBag, h, cp_fr, hot, hy]
      clear hn hf ha hS hR
      grind
    · have h0 := h0 (fun x => hb (by rcases x.2 with x | x; exact Or.inl x; exact Or.inr x.1))
      have hb1 : ¬ b.toInt = -1 := fun e => hb (Or.inl e)
      have hb2 : ¬ (hereC c b ∧ (rA c 16 (tn b)).toInt = 1) := fun e => hb (Or.inr e)
      clear h1
      apply hR 60
      simp (maxSteps := 10000000) (disch := omega) only [hS, hn, sm_eqs, hf, ha, sm_b0, Int.reduceToNat, ↓reduceIte, Nat.reduceEqDiff, true_and, and_true, List.length_nil, List.length_cons, Nat.reduceAdd, Nat.reduceLeDiff, Nat.zero_le, false_implies, true_implies, not_true_eq_false, not_false_eq_true, implies_true, Nat.reduceSub, Nat.reduceMul, Nat.reduceDiv, reduceCtorEq, tn_clamp, nI_t, tn_nI, nI_add, pk_mul, rS_gS, rS_gA, rS_gL, rA_gS, rA_gA, rA_gL, rL_gS, rL_gA, rL_gL, and_self, and_false, false_and, if_true, if_false, true_or, or_true, or_false, false_or, sm_in, eqI, sI_s, Int32.toInt_zero, Int.natCast_zero, Int.natCast_one, Int.cast_ofNat_Int, Int.reduceEq, Int.reduceLT, Int.reduceLE, Int.reduceNeg, Int.reduceNe, ne_eq, n_up, g_up, e_cat, fr_A, fr_O, fr_P, fr_L, sp_X10_isThing, sp_X10_isOut, sp_X10_isBag, h, cp_fr, hot, hy, hb1]
      clear hn hf ha hS hR
      grind
  · have h0 := h0 (fun x => hh x.1)
    have hh2 : okT c t → ¬ whyC c (tn t) = -1 := fun a b => hh ⟨a, b⟩
    clear h1
    apply hR 60
    simp (maxSteps := 10000000) (disch := omega) only [hS, hn, sm_eqs, hf, ha, sm_b0, Int.reduceToNat, ↓reduceIte, Nat.reduceEqDiff, true_and, and_true, List.length_nil, List.length_cons, Nat.reduceAdd, Nat.reduceLeDiff, Nat.zero_le, false_implies, true_implies, not_true_eq_false, not_false_eq_true, implies_true, Nat.reduceSub, Nat.reduceMul, Nat.reduceDiv, reduceCtorEq, tn_clamp, nI_t, tn_nI, nI_add, pk_mul, rS_gS, rS_gA, rS_gL, rA_gS, rA_gA, rA_gL, rL_gS, rL_gA, rL_gL, and_self, and_false, false_and, if_true, if_false, true_or, or_true, or_false, false_or, sm_in, eqI, sI_s, Int32.toInt_zero, Int.natCast_zero, Int.natCast_one, Int.cast_ofNat_Int, Int.reduceEq, Int.reduceLT, Int.reduceLE, Int.reduceNeg, Int.reduceNe, ne_eq, n_up, g_up, e_cat, fr_A, fr_O, fr_P, fr_L, sp_X10_isThing, sp_X10_isOut, sp_X10_isBag, h, cp_fr]
    clear hn hf ha hS hR
    grind
theorem ok_X10_into (l : Launch) (c : sm_G) : sm_spok l lay sm_mt 4 218 (sp_X10_into c) := Or.inr (Or.inr (Or.inr ⟨by decide, by decide, by
  rw [mt_218]
  exact sm_method (T := TX10_) v_cok v_lok v_ka v_tok_X10 mok_X10_into rfl (by unfold sm_rk; simp) (wf_X10_into c) (List.forall_mem_cons.mpr ⟨sm_spok_up (Nat.le_of_ble_eq_true rfl : 2 ≤ 3) (ok_X10_isThing l c), List.forall_mem_cons.mpr ⟨sm_spok_up (Nat.le_of_ble_eq_true rfl : 1 ≤ 3) (ok_X10_isOut l c), List.forall_mem_cons.mpr ⟨sm_spok_up (Nat.le_of_ble_eq_true rfl : 3 ≤ 3) (ok_X10_isBag l c), fun _ h => absurd h List.not_mem_nil⟩⟩⟩) (b_X10_into c)⟩))
