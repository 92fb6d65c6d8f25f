/-! Matching one report with one thing. -/
noncomputable def dc (p : Prop) : Bool := @decide p (Classical.propDecidable p)
theorem dc_t {p : Prop} : dc p = true ↔ p := @decide_eq_true_iff p (Classical.propDecidable p)
theorem dc_f {p : Prop} : dc p = false ↔ ¬ p := @decide_eq_false_iff_not p (Classical.propDecidable p)
/-- the first place that a test holds of -/
def ffst (f : Nat → Bool) : Nat → Option Nat
  | 0 => none
  | n + 1 => match ffst f n with
    | some q => some q
    | none => if f n = true then some n else none
theorem ffst_none {f : Nat → Bool} : ∀ {n : Nat}, (∀ u, u < n → f u = false) → ffst f n = none := by
  intro n
  induction n with
  | zero => intro _; rfl
  | succ n ih => intro h; simp only [ffst]; rw [ih (fun u hu => h u (by omega)), h n (by omega)]; rfl
theorem ffst_some {f : Nat → Bool} {q : Nat} (hq : f q = true) (hl : ∀ u, u < q → f u = false) : ∀ {n : Nat}, q < n → ffst f n = some q := by
  intro n
  induction n with
  | zero => intro h; omega
  | succ n ih =>
    intro h
    simp only [ffst]
    by_cases e : q = n
    · subst e; rw [ffst_none hl, hq]; rfl
    · rw [ih (by omega)]
def oI (o : Option Nat) : Int32 := match o with
  | some q => nI q
  | none => sI 0
/-- the answer to q in row x -/
def anC (g : sm_G) (p x q : Nat) : Int32 := if bitI (rA g (p / 3 + 83) x) q = true then rA g (p + 2) (x * 16 + q) else sI 0
theorem aC_nI (g : sm_G) (p : Nat) {x q : Nat} (hx : x < 60) (hq : q < 16) : aC g p (nI x) (nI q) = anC g p x q := by
  unfold aC anC
  simp (disch := omega) only [nI_t, tn_nI]
  by_cases h : bitI (rA g (p / 3 + 83) x) q = true
  · rw [if_pos h, if_pos ⟨by omega, by omega, by omega, by omega, h⟩]
  · rw [if_neg h, if_neg (fun h2 => h h2.2.2.2.2)]
/-- questions hold what they may -/
def wQ (g : sm_G) : Prop := zQ g ∧ ∀ j, j < nQ g → (rA g 2 j).toInt = 0 → (rA g 3 j).toInt ≤ 40
/-- rows are no longer than there are questions, and know what lies within them -/
def wL (g : sm_G) (p : Nat) : Prop := ∀ x, x < 60 → -1 ≤ (rA g (p + 1) x).toInt ∧ (rA g (p + 1) x).toInt ≤ (nQ g : Int) ∧ ∀ q, bitI (rA g (p / 3 + 83) x) q = true → (q : Int) < (rA g (p + 1) x).toInt ∧ (rA g (p + 2) (x * 16 + q)).toInt ≠ -1
theorem an_bit {g : sm_G} {p x q : Nat} (h : wL g p) (hx : x < 60) : (anC g p x q).toInt ≠ -1 ↔ bitI (rA g (p / 3 + 83) x) q = true := by
  unfold anC
  by_cases e : bitI (rA g (p / 3 + 83) x) q = true
  · rw [if_pos e]; exact ⟨fun _ => e, fun _ => ((h x hx).2.2 q e).2⟩
  · rw [if_neg e]; exact ⟨fun h2 => absurd sI_s.1 h2, fun h2 => absurd h2 e⟩
theorem an_hi {g : sm_G} {p x q : Nat} (h : wL g p) (hx : x < 60) (hq : nQ g ≤ q) : anC g p x q = sI 0 := by
  unfold anC
  rw [if_neg]
  intro e
  have h2 := h x hx
  have := (h2.2.2 q e).1
  omega
def agC (g : sm_G) (q : Nat) (a b : Int32) : Prop := vAns (rA g 2 q) (rA g 3 q) a ∧ vAns (rA g 2 q) (rA g 3 q) b ∧ vAg (rA g 2 q) (rA g 3 q) (bitL (rL g 5 (q * 40 + tn a)) (tn b) = true) a b
def clC (g : sm_G) (r t q : Nat) : Prop := (anC g 6 r q).toInt ≠ -1 ∧ (anC g 9 t q).toInt ≠ -1 ∧ ¬ agC g q (anC g 6 r q) (anC g 9 t q)
noncomputable def fcC (g : sm_G) (r t : Nat) : Option Nat := ffst (fun q => dc (clC g r t q)) (nQ g)
def sp_X4_firstClash : sm_SP := fun as g K => match as with
  | [.ref p, .int r, .int t] => p = 31 ∧ wQ g ∧ wL g 6 ∧ wL g 9 ∧ sm_in r 60 ∧ sm_in t 60 ∧ K (some (.int (oI (fcC g (tn r) (tn t))))) g
  | _ => False
theorem wf_X4_firstClash : sm_wf lay (yX4_firstClash, cX4_firstClash, 5, (some .int)) 3 false sp_X4_firstClash := by
  intro as g K h
  simp only [sp_X4_firstClash] at h
  split at h
  · exact ⟨Nat.le_of_ble_eq_true rfl, by simp, rfl, fun _ => by obtain rfl := h.1; exact ⟨31, _, 4, [3, 8, 11, 17, 34], TX4, 5, rfl, rfl, rfl⟩⟩
  · exact h.elim
set_option maxHeartbeats 4000000 in
set_option maxRecDepth 100000 in
theorem b_X4_firstClash : sm_body lay NX4_firstClash 5 0 (sm_cl [(85, sp_X7_knownSetOf), (86, sp_X7_answerOf), (73, sp_X5_agree)]) sp_X4_firstClash := by
  intro K J S hW as g hs
  have hn := n_X4_firstClash
  have hf := fd_all
  have ha := ar_all
  generalize NX4_firstClash = N at hn hW
  generalize lay = L at hf ha hW
  obtain ⟨hS, hR⟩ := hW
  simp only [sp_X4_firstClash] at hs
  split at hs
  case h_2 => exact hs.elim
  simp only [e_args, sm_pad, List.length_cons, List.length_nil, Nat.reduceAdd, Nat.reduceSub, List.replicate_succ, List.replicate_zero, List.cons_append, List.nil_append]
  rename_i p r t
  obtain ⟨rfl, w, l6, l9, hr, ht, hs⟩ := hs
  obtain ⟨r, hr2, rfl⟩ := sm_in_nI hr
  obtain ⟨t, ht2, rfl⟩ := sm_in_nI ht
  simp (disch := omega) only [tn_nI] at hs
  have z2 := w.1.2
  have w1 := w.1
  have w2 := w.2
  have b6 : ∀ q, (anC g 6 r q).toInt ≠ -1 ↔ bitI (rA g 85 r) q = true := fun q => an_bit l6 hr2
  have b9 : ∀ q, (anC g 9 t q).toInt ≠ -1 ↔ bitI (rA g 86 t) q = true := fun q => an_bit l9 ht2
  have k6 : ∀ q, bitI (rA g 85 r) q = true → q < nQ g := fun q h => by
    have h2 := l6 r hr2
    have h3 := (h2.2.2 q h).1
    omega
  clear l6 l9
  have hno : ∀ q, (∀ u, u < q → ¬ clC g r t u) → (∀ u, q ≤ u → bitI (rA g 85 r &&& rA g 86 t) u = false) → K (some (.int (sI 0))) g := fun q hu hz => by
    rw [show fcC g r t = none from ffst_none (fun u hu2 => dc_f.mpr (fun hc => by
      by_cases e : u < q
      · exact hu u e hc
      · obtain ⟨c1, c2, c3⟩ := hc
        have := hz u (by omega)
        rw [bi_land, (b6 u).mp c1, (b9 u).mp c2] at this
        exact absurd this (by decide)))] at hs
    exact hs
  have loop : ∀ m q, m = 17 - q → q ≤ 16 → (∀ u, u < q → ¬ clC g r t u) → J 21 [some (.ref 31), some (.int (nI r)), some (.int (nI t)), some (.int (rA g 85 r &&& rA g 86 t)), some (.int (nI q))] [] g := by
    intro m
    induction m with
    | zero => intro q hm hq; omega
    | succ m ih =>
      intro q hm hq hu
      have hno := hno q hu
      by_cases h16 : q < 16
      · have hz : ((rA g 85 r &&& rA g 86 t) >>> (nI q &&& 31)).toInt = 0 → K (some (.int (sI 0))) g := fun h => hno (fun u h1 => by
          by_cases h32 : u < 32
          · exact bi_none (by omega) h h1 h32
          · exact bi_hi (by omega))
        have e1 : q < nQ g → okQ g (nI q) := fun h => by unfold okQ; rw [nI_t (by omega)]; omega
        have ih := fun (h : ¬ clC g r t q) => ih (q + 1) (by omega) (by omega) (fun u hu2 => by
          by_cases e : u = q
          · rw [e]; exact h
          · exact hu u (by omega))
        cases hb : bitI (rA g 85 r &&& rA g 86 t) q with
        | false =>
          have ih := ih (fun hc => by
            rw [bi_land, (b6 q).mp hc.1, (b9 q).mp hc.2.1] at hb
            exact absurd hb (by decide))
          clear hs hu hno b6 b9 k6 e1
          apply hR 60
          simp (maxSteps := 10000000) (disch := omega) only [hS, hn, sm_eqs, hf, ha, sm_b0, Int.reduceToNat, ↓reduceIte, Nat.reduceEqDiff, true_and, and_true, List.length_nil, List.length_cons, Nat.reduceAdd, Nat.reduceLeDiff, Nat.zero_le, false_implies, true_implies, not_true_eq_false, not_false_eq_true, implies_true, Nat.reduceSub, Nat.reduceMul, Nat.reduceDiv, reduceCtorEq, tn_clamp, nI_t, tn_nI, nI_add, pk_mul, rS_gS, rS_gA, rS_gL, rA_gS, rA_gA, rA_gL, rL_gS, rL_gA, rL_gL, and_self, and_false, false_and, if_true, if_false, true_or, or_true, or_false, false_or, sm_in, eqI, sI_s, Int32.toInt_zero, Int.natCast_zero, Int.natCast_one, Int.cast_ofNat_Int, Int.reduceEq, Int.reduceLT, Int.reduceLE, Int.reduceNeg, Int.reduceNe, ne_eq, n_up, g_up, e_cat, sp_X7_knownSetOf, sp_X7_answerOf, sp_X5_agree, bi_and, hb]
          clear hn hf ha hS hR
          grind
        | true =>
          have hb2 := hb
          rw [bi_land, Bool.and_eq_true] at hb2
          have hqn := k6 q hb2.1
          have e1 := e1 hqn
          have c1 := (b6 q).mpr hb2.1
          have c2 := (b9 q).mpr hb2.2
          by_cases hc : clC g r t q
          · have hs2 : K (some (.int (nI q))) g := by
              rw [show fcC g r t = some q from ffst_some (dc_t.mpr hc) (fun u hu2 => dc_f.mpr (hu u hu2)) hqn] at hs
              exact hs
            have c3 := hc.2.2
            simp only [agC] at c3
            clear hs hu hno b6 b9 k6 ih hc
            apply hR 80
            simp (maxSteps := 10000000) (disch := omega) only [hS, hn, sm_eqs, hf, ha, sm_b0, Int.reduceToNat, ↓reduceIte, Nat.reduceEqDiff, true_and, and_true, List.length_nil, List.length_cons, Nat.reduceAdd, Nat.reduceLeDiff, Nat.zero_le, false_implies, true_implies, not_true_eq_false, not_false_eq_true, implies_true, Nat.reduceSub, Nat.reduceMul, Nat.reduceDiv, reduceCtorEq, tn_clamp, nI_t, tn_nI, nI_add, pk_mul, rS_gS, rS_gA, rS_gL, rA_gS, rA_gA, rA_gL, rL_gS, rL_gA, rL_gL, and_self, and_false, false_and, if_true, if_false, true_or, or_true, or_false, false_or, sm_in, eqI, sI_s, Int32.toInt_zero, Int.natCast_zero, Int.natCast_one, Int.cast_ofNat_Int, Int.reduceEq, Int.reduceLT, Int.reduceLE, Int.reduceNeg, Int.reduceNe, ne_eq, n_up, g_up, e_cat, sp_X7_knownSetOf, sp_X7_answerOf, sp_X5_agree, bi_and, hb, aC_nI, e1, w1]
            clear hn hf ha hS hR
            grind
          · have ih := ih hc
            simp only [clC, agC] at hc
            clear hs hu hno b6 b9 k6
            apply hR 80
            simp (maxSteps := 10000000) (disch := omega) only [hS, hn, sm_eqs, hf, ha, sm_b0, Int.reduceToNat, ↓reduceIte, Nat.reduceEqDiff, true_and, and_true, List.length_nil, List.length_cons, Nat.reduceAdd, Nat.reduceLeDiff, Nat.zero_le, false_implies, true_implies, not_true_eq_false, not_false_eq_true, implies_true, Nat.reduceSub, Nat.reduceMul, Nat.reduceDiv, reduceCtorEq, tn_clamp, nI_t, tn_nI, nI_add, pk_mul, rS_gS, rS_gA, rS_gL, rA_gS, rA_gA, rA_gL, rL_gS, rL_gA, rL_gL, and_self, and_false, false_and, if_true, if_false, true_or, or_true, or_false, false_or, sm_in, eqI, sI_s, Int32.toInt_zero, Int.natCast_zero, Int.natCast_one, Int.cast_ofNat_Int, Int.reduceEq, Int.reduceLT, Int.reduceLE, Int.reduceNeg, Int.reduceNe, ne_eq, n_up, g_up, e_cat, sp_X7_knownSetOf, sp_X7_answerOf, sp_X5_agree, bi_and, hb, aC_nI, e1, w1]
            clear hn hf ha hS hR
            grind
      · have hs2 := hno (fun u h1 => by
          by_cases h32 : u < 32
          · cases hb : bitI (rA g 85 r &&& rA g 86 t) u with
            | false => rfl
            | true =>
              rw [bi_land, Bool.and_eq_true] at hb
              have := k6 u hb.1
              omega
          · exact bi_hi (by omega))
        clear hs hu hno b6 b9 k6 ih
        apply hR 60
        simp (maxSteps := 10000000) (disch := omega) only [hS, hn, sm_eqs, hf, ha, sm_b0, Int.reduceToNat, ↓reduceIte, Nat.reduceEqDiff, true_and, and_true, List.length_nil, List.length_cons, Nat.reduceAdd, Nat.reduceLeDiff, Nat.zero_le, false_implies, true_implies, not_true_eq_false, not_false_eq_true, implies_true, Nat.reduceSub, Nat.reduceMul, Nat.reduceDiv, reduceCtorEq, tn_clamp, nI_t, tn_nI, nI_add, pk_mul, rS_gS, rS_gA, rS_gL, rA_gS, rA_gA, rA_gL, rL_gS, rL_gA, rL_gL, and_self, and_false, false_and, if_true, if_false, true_or, or_true, or_false, false_or, sm_in, eqI, sI_s, Int32.toInt_zero, Int.natCast_zero, Int.natCast_one, Int.cast_ofNat_Int, Int.reduceEq, Int.reduceLT, Int.reduceLE, Int.reduceNeg, Int.reduceNe, ne_eq, n_up, g_up, e_cat, sp_X7_knownSetOf, sp_X7_answerOf, sp_X5_agree]
        repeat' (first | (refine And.intro ?_ ?_) | (intro _))
        all_goals (first | with_reducible assumption | omega | (exfalso; omega))
  have h0 := loop 17 0 rfl (by omega) (fun u h => by omega)
  clear hs loop hno b6 b9 k6
  apply hR 60
  simp (maxSteps := 10000000) (disch := omega) only [hS, hn, sm_eqs, hf, ha, sm_b0, Int.reduceToNat, ↓reduceIte, Nat.reduceEqDiff, true_and, and_true, List.length_nil, List.length_cons, Nat.reduceAdd, Nat.reduceLeDiff, Nat.zero_le, false_implies, true_implies, not_true_eq_false, not_false_eq_true, implies_true, Nat.reduceSub, Nat.reduceMul, Nat.reduceDiv, reduceCtorEq, tn_clamp, nI_t, tn_nI, nI_add, pk_mul, rS_gS, rS_gA, rS_gL, rA_gS, rA_gA, rA_gL, rL_gS, rL_gA, rL_gL, and_self, and_false, false_and, if_true, if_false, true_or, or_true, or_false, false_or, sm_in, eqI, sI_s, Int32.toInt_zero, Int.natCast_zero, Int.natCast_one, Int.cast_ofNat_Int, Int.reduceEq, Int.reduceLT, Int.reduceLE, Int.reduceNeg, Int.reduceNe, ne_eq, n_up, g_up, e_cat, sp_X7_knownSetOf, sp_X7_answerOf, sp_X5_agree]
  repeat' (first | (refine And.intro ?_ ?_) | (intro _))
  all_goals (first | with_reducible assumption | omega | (exfalso; omega))
theorem ok_X4_firstClash (l : Launch) : sm_spok l lay sm_mt 3 56 sp_X4_firstClash := Or.inr (Or.inr (Or.inr ⟨by decide, by decide, by
  rw [mt_56]
  exact sm_method (T := TX4_) v_cok v_lok v_ka v_tok_X4 mok_X4_firstClash rfl (by unfold sm_rk; simp) wf_X4_firstClash (List.forall_mem_cons.mpr ⟨sm_spok_up (Nat.le_of_ble_eq_true rfl : 2 ≤ 2) (ok_X7_knownSetOf l), List.forall_mem_cons.mpr ⟨sm_spok_up (Nat.le_of_ble_eq_true rfl : 2 ≤ 2) (ok_X7_answerOf l), List.forall_mem_cons.mpr ⟨sm_spok_up (Nat.le_of_ble_eq_true rfl : 2 ≤ 2) (ok_X5_agree l), fun _ h => absurd h List.not_mem_nil⟩⟩⟩) b_X4_firstClash⟩))
