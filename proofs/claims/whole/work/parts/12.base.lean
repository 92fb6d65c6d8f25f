/-! Plain facts, then the small methods. -/
theorem sm_b0 : ((nI 0 = 0) = True) ∧ ((nI 1 = 0) = False) ∧ ((0 < 1) = True) ∧ ((0 < 2) = True) ∧ ((0 < 3) = True) := ⟨eq_true rfl, eq_false (by decide), eq_true (by decide), eq_true (by decide), eq_true (by decide)⟩
theorem nI_t {n : Nat} (h : n < 2147483648) : (nI n).toInt = (n : Int) := nI_toInt h
theorem e_arg_n : sm_arg [] = [] := (rfl)
theorem e_arg_r (x : Nat) (vs : List Value) : sm_arg (.ref x :: vs) = some (.ref x) :: sm_arg vs := (rfl)
theorem e_arg_i (x : Int32) (vs : List Value) : sm_arg (.int x :: vs) = some (.int x) :: sm_arg vs := (rfl)
theorem e_arg_l (x : Int64) (vs : List Value) : sm_arg (.long x :: vs) = some (.long x) :: none :: sm_arg vs := (rfl)
theorem e_args : (sm_arg [] = []) ∧ (∀ (x : Nat) (vs : List Value), sm_arg (.ref x :: vs) = some (.ref x) :: sm_arg vs) ∧ (∀ (x : Int32) (vs : List Value), sm_arg (.int x :: vs) = some (.int x) :: sm_arg vs) ∧ (∀ (x : Int64) (vs : List Value), sm_arg (.long x :: vs) = some (.long x) :: none :: sm_arg vs) := ⟨e_arg_n, e_arg_r, e_arg_i, e_arg_l⟩
def tn (x : Int32) : Nat := x.toInt.toNat
theorem tn_clamp (x : Int32) : x.toNatClampNeg = tn x := rfl
theorem tn_nI {n : Nat} (h : n < 2 ^ 31) : tn (nI n) = n := by unfold tn; rw [nI_toInt h]; rfl
theorem nI_tn {x : Int32} (h : 0 ≤ x.toInt) : x = nI (tn x) := by
  have h2 := Int32.toInt_lt x
  apply Int32.toInt_inj.mp
  unfold tn
  rw [nI_toInt (by omega)]
  omega
theorem sI_s : ((sI 0).toInt = -1) ∧ ((sI 1).toInt = -2) ∧ ((sI 2).toInt = -3) ∧ ((sI 3).toInt = -4) ∧ ((sI 4).toInt = -5) ∧ ((sI 5).toInt = -6) := ⟨by decide, by decide, by decide, by decide, by decide, by decide⟩
theorem eqI (x y : Int32) : (x = y) = (x.toInt = y.toInt) := propext Int32.toInt_inj.symm
theorem sI_toInt {n : Nat} (h : n < 2 ^ 31) : (sI n).toInt = -((n : Int) + 1) := by
  unfold sI; rw [Int32.toInt_ofInt_of_le (by omega) (by omega)]
theorem sm_in_nI {x : Int32} {n : Nat} (h : sm_in x n) : ∃ i, i < n ∧ x = nI i := by
  refine ⟨tn x, ?_, nI_tn h.1⟩
  have h1 := h.1
  have h2 := h.2
  unfold tn
  omega
theorem sm_in_of {i n : Nat} (h : i < n) (hn : n < 2147483648) : sm_in (nI i) n := by
  unfold sm_in; rw [nI_t (by omega)]; omega
def nQ (g : sm_G) : Nat := tn (rS g 1 504)
def nR (g : sm_G) : Nat := tn (rS g 12 602)
def nT (g : sm_G) : Nat := tn (rS g 15 809)
def nO (g : sm_G) : Nat := tn (rS g 15 810)
def nC (g : sm_G) : Nat := tn (rS g 25 205)
theorem e_cat : (∀ x : Int32, (Value.int x).category = 1) ∧ (∀ x : Nat, (Value.ref x).category = 1) ∧ (∀ x : Int64, (Value.long x).category = 2) := ⟨fun _ => rfl, fun _ => rfl, fun _ => rfl⟩
theorem n_up : (∀ (g : sm_G) (p c : Nat) (v : Int32), nQ (gS g p c v) = if 1 = p ∧ 504 = c then tn v else nQ g) ∧ (∀ (g : sm_G) (p : Nat) (f : Nat → Int32), nQ (gA g p f) = nQ g) ∧ (∀ (g : sm_G) (p : Nat) (f : Nat → Int64), nQ (gL g p f) = nQ g) ∧
  (∀ (g : sm_G) (p c : Nat) (v : Int32), nR (gS g p c v) = if 12 = p ∧ 602 = c then tn v else nR g) ∧ (∀ (g : sm_G) (p : Nat) (f : Nat → Int32), nR (gA g p f) = nR g) ∧ (∀ (g : sm_G) (p : Nat) (f : Nat → Int64), nR (gL g p f) = nR g) ∧
  (∀ (g : sm_G) (p c : Nat) (v : Int32), nT (gS g p c v) = if 15 = p ∧ 809 = c then tn v else nT g) ∧ (∀ (g : sm_G) (p : Nat) (f : Nat → Int32), nT (gA g p f) = nT g) ∧ (∀ (g : sm_G) (p : Nat) (f : Nat → Int64), nT (gL g p f) = nT g) ∧
  (∀ (g : sm_G) (p c : Nat) (v : Int32), nO (gS g p c v) = if 15 = p ∧ 810 = c then tn v else nO g) ∧ (∀ (g : sm_G) (p : Nat) (f : Nat → Int32), nO (gA g p f) = nO g) ∧ (∀ (g : sm_G) (p : Nat) (f : Nat → Int64), nO (gL g p f) = nO g) ∧
  (∀ (g : sm_G) (p c : Nat) (v : Int32), nC (gS g p c v) = if 25 = p ∧ 205 = c then tn v else nC g) ∧ (∀ (g : sm_G) (p : Nat) (f : Nat → Int32), nC (gA g p f) = nC g) ∧ (∀ (g : sm_G) (p : Nat) (f : Nat → Int64), nC (gL g p f) = nC g) := by
  refine ⟨?_, ?_, ?_, ?_, ?_, ?_, ?_, ?_, ?_, ?_, ?_, ?_, ?_, ?_, ?_⟩ <;> intros <;> simp only [nQ, nR, nT, nO, nC, rS_gS, rS_gA, rS_gL] <;> split <;> rfl
theorem g_up : (∀ (g : sm_G) (p c : Nat) (v w : Int32), gS (gS g p c v) p c w = gS g p c w) ∧ (∀ (g : sm_G) (p : Nat) (f h : Nat → Int32), gA (gA g p f) p h = gA g p h) ∧ (∀ (g : sm_G) (p : Nat) (f h : Nat → Int64), gL (gL g p f) p h = gL g p h) := by
  refine ⟨fun g p c v w => ?_, fun g p f h => ?_, fun g p f h => ?_⟩
  · refine Prod.ext (funext fun a => funext fun b => ?_) rfl
    simp only [gS]; split <;> rfl
  · refine Prod.ext rfl (Prod.ext (funext fun a => ?_) rfl)
    simp only [gA]; split <;> rfl
  · refine Prod.ext rfl (Prod.ext rfl (funext fun a => ?_))
    simp only [gL]; split <;> rfl
/-- the numbers of questions, reports, things, things gone, claims are what they are said to be, and in bounds -/
def zQ (g : sm_G) : Prop := rS g 1 504 = nI (nQ g) ∧ nQ g ≤ 16
def zR (g : sm_G) : Prop := rS g 12 602 = nI (nR g) ∧ nR g ≤ 60
def zT (g : sm_G) : Prop := rS g 15 809 = nI (nT g) ∧ nT g ≤ 60
def zO (g : sm_G) : Prop := rS g 15 810 = nI (nO g) ∧ nO g ≤ 60
def zC (g : sm_G) : Prop := rS g 25 205 = nI (nC g) ∧ nC g ≤ 100
def okQ (g : sm_G) (q : Int32) : Prop := 0 ≤ q.toInt ∧ q.toInt < (nQ g : Int)
def okR (g : sm_G) (r : Int32) : Prop := 0 ≤ r.toInt ∧ r.toInt < (nR g : Int)
def okT (g : sm_G) (t : Int32) : Prop := 0 ≤ t.toInt ∧ t.toInt < (nT g : Int)
def okC (g : sm_G) (c : Int32) : Prop := 0 ≤ c.toInt ∧ c.toInt < (nC g : Int)
theorem ok_nI {x : Int32} {n : Nat} (h : 0 ≤ x.toInt ∧ x.toInt < (n : Int)) : ∃ i, i < n ∧ x = nI i := sm_in_nI (x := x) (n := n) h
def sp_X5_size : sm_SP := fun as g K => match as with
  | [.ref p] => p = 1 ∧ zQ g ∧ K (some (.int (nI (nQ g)))) g
  | _ => False
theorem wf_X5_size : sm_wf lay (yX5_size, cX5_size, 1, (some .int)) 1 false sp_X5_size := by
  intro as g K h
  simp only [sp_X5_size] at h
  split at h
  · exact ⟨Nat.le_of_ble_eq_true rfl, by simp, rfl, fun _ => by obtain rfl := h.1; exact ⟨1, _, 5, [4, 5, 6, 7, 1], TX5, 5, rfl, rfl, rfl⟩⟩
  · exact h.elim
set_option maxHeartbeats 4000000 in
set_option maxRecDepth 100000 in
theorem b_X5_size : sm_body lay NX5_size 1 0 (sm_cl []) sp_X5_size := by
  intro K J S hW as g hs
  have hn := n_X5_size
  have hf := fd_all
  have ha := ar_all
  generalize NX5_size = N at hn hW
  generalize lay = L at hf ha hW
  obtain ⟨hS, hR⟩ := hW
  simp only [sp_X5_size] at hs
  split at hs
  case h_2 => exact hs.elim
  simp only [e_args, sm_pad, List.length_cons, List.length_nil, Nat.reduceAdd, Nat.reduceSub, List.replicate_succ, List.replicate_zero, List.cons_append, List.nil_append]
  rename_i p
  obtain ⟨rfl, ⟨z1, z2⟩, hs⟩ := hs
  apply hR 20
  simp (maxSteps := 10000000) (disch := omega) only [hS, hn, sm_eqs, hf, ha, sm_b0, Int.reduceToNat, ↓reduceIte, Nat.reduceEqDiff, true_and, and_true, List.length_nil, List.length_cons, Nat.reduceAdd, Nat.reduceLeDiff, Nat.zero_le, false_implies, true_implies, not_true_eq_false, not_false_eq_true, implies_true, Nat.reduceSub, Nat.reduceMul, reduceCtorEq, tn_clamp, nI_t, tn_nI, nI_add, pk_mul, rS_gS, rS_gA, rS_gL, rA_gS, rA_gA, rA_gL, rL_gS, rL_gA, rL_gL, and_self, and_false, false_and, if_true, if_false, true_or, or_true, or_false, false_or, sm_in, eqI, sI_s, Int32.toInt_zero, Int.natCast_zero, Int.natCast_one, Int.cast_ofNat_Int, Int.reduceEq, Int.reduceLT, Int.reduceLE, Int.reduceNeg, Int.reduceNe, ne_eq, n_up, g_up, e_cat, z1]
  exact hs
theorem ok_X5_size (l : Launch) : sm_spok l lay sm_mt 1 65 sp_X5_size := Or.inr (Or.inr (Or.inr ⟨by decide, by decide, by
  rw [mt_65]
  exact sm_method (T := TX5_) v_cok v_lok v_ka v_tok_X5 mok_X5_size rfl (by unfold sm_rk; simp) wf_X5_size (fun _ h => absurd h List.not_mem_nil) b_X5_size⟩))
def sp_X5_has : sm_SP := fun as g K => match as with
  | [.ref p, .int q] => p = 1 ∧ zQ g ∧ (okQ g q → K (some (.int (nI 1))) g) ∧ (¬ okQ g q → K (some (.int (nI 0))) g)
  | _ => False
theorem wf_X5_has : sm_wf lay (yX5_has, cX5_has, 2, (some .boolean)) 2 false sp_X5_has := by
  intro as g K h
  simp only [sp_X5_has] at h
  split at h
  · exact ⟨Nat.le_of_ble_eq_true rfl, by simp, rfl, fun _ => by obtain rfl := h.1; exact ⟨1, _, 5, [4, 5, 6, 7, 1], TX5, 5, rfl, rfl, rfl⟩⟩
  · exact h.elim
set_option maxHeartbeats 4000000 in
set_option maxRecDepth 100000 in
theorem b_X5_has : sm_body lay NX5_has 2 1 (sm_cl []) sp_X5_has := by
  intro K J S hW as g hs
  have hn := n_X5_has
  have hf := fd_all
  have ha := ar_all
  generalize NX5_has = N at hn hW
  generalize lay = L at hf ha hW
  obtain ⟨hS, hR⟩ := hW
  simp only [sp_X5_has] at hs
  split at hs
  case h_2 => exact hs.elim
  simp only [e_args, sm_pad, List.length_cons, List.length_nil, Nat.reduceAdd, Nat.reduceSub, List.replicate_succ, List.replicate_zero, List.cons_append, List.nil_append]
  rename_i p q
  obtain ⟨rfl, ⟨z1, z2⟩, h1, h2⟩ := hs
  simp only [okQ] at h1 h2
  apply hR 20
  simp (maxSteps := 10000000) (disch := omega) only [hS, hn, sm_eqs, hf, ha, sm_b0, Int.reduceToNat, ↓reduceIte, Nat.reduceEqDiff, true_and, and_true, List.length_nil, List.length_cons, Nat.reduceAdd, Nat.reduceLeDiff, Nat.zero_le, false_implies, true_implies, not_true_eq_false, not_false_eq_true, implies_true, Nat.reduceSub, Nat.reduceMul, reduceCtorEq, tn_clamp, nI_t, tn_nI, nI_add, pk_mul, rS_gS, rS_gA, rS_gL, rA_gS, rA_gA, rA_gL, rL_gS, rL_gA, rL_gL, and_self, and_false, false_and, if_true, if_false, true_or, or_true, or_false, false_or, sm_in, eqI, sI_s, Int32.toInt_zero, Int.natCast_zero, Int.natCast_one, Int.cast_ofNat_Int, Int.reduceEq, Int.reduceLT, Int.reduceLE, Int.reduceNeg, Int.reduceNe, ne_eq, n_up, g_up, e_cat, z1]
  clear hn hf ha hS hR
  grind
theorem ok_X5_has (l : Launch) : sm_spok l lay sm_mt 1 66 sp_X5_has := Or.inr (Or.inr (Or.inr ⟨by decide, by decide, by
  rw [mt_66]
  exact sm_method (T := TX5_) v_cok v_lok v_ka v_tok_X5 mok_X5_has rfl (by unfold sm_rk; simp) wf_X5_has (fun _ h => absurd h List.not_mem_nil) b_X5_has⟩))
def sp_X7_isRow : sm_SP := fun as g K => match as with
  | [.ref p, .int x] => (p = 6 ∨ p = 9) ∧ (sm_in x 60 → K (some (.int (nI 1))) g) ∧ (¬ sm_in x 60 → K (some (.int (nI 0))) g)
  | _ => False
theorem wf_X7_isRow : sm_wf lay (yX7_isRow, cX7_isRow, 2, (some .boolean)) 2 false sp_X7_isRow := by
  intro as g K h
  simp only [sp_X7_isRow] at h
  split at h
  · exact ⟨Nat.le_of_ble_eq_true rfl, by simp, rfl, fun _ => by
      rcases h.1 with rfl | rfl
      · exact ⟨6, _, 7, [9, 10], TX7, 2, rfl, rfl, rfl⟩
      · exact ⟨9, _, 7, [12, 13], TX7, 2, rfl, rfl, rfl⟩⟩
  · exact h.elim
set_option maxHeartbeats 4000000 in
set_option maxRecDepth 100000 in
theorem b_X7_isRow : sm_body lay NX7_isRow 2 1 (sm_cl []) sp_X7_isRow := by
  intro K J S hW as g hs
  have hn := n_X7_isRow
  have hf := fd_all
  have ha := ar_all
  generalize NX7_isRow = N at hn hW
  generalize lay = L at hf ha hW
  obtain ⟨hS, hR⟩ := hW
  simp only [sp_X7_isRow] at hs
  split at hs
  case h_2 => exact hs.elim
  simp only [e_args, sm_pad, List.length_cons, List.length_nil, Nat.reduceAdd, Nat.reduceSub, List.replicate_succ, List.replicate_zero, List.cons_append, List.nil_append]
  rename_i p x
  obtain ⟨hp, h1, h2⟩ := hs
  simp only [sm_in] at h1 h2
  rcases hp with rfl | rfl
  all_goals apply hR 20
  all_goals simp (maxSteps := 10000000) (disch := omega) only [hS, hn, sm_eqs, hf, ha, sm_b0, Int.reduceToNat, ↓reduceIte, Nat.reduceEqDiff, true_and, and_true, List.length_nil, List.length_cons, Nat.reduceAdd, Nat.reduceLeDiff, Nat.zero_le, false_implies, true_implies, not_true_eq_false, not_false_eq_true, implies_true, Nat.reduceSub, Nat.reduceMul, reduceCtorEq, tn_clamp, nI_t, tn_nI, nI_add, pk_mul, rS_gS, rS_gA, rS_gL, rA_gS, rA_gA, rA_gL, rL_gS, rL_gA, rL_gL, and_self, and_false, false_and, if_true, if_false, true_or, or_true, or_false, false_or, sm_in, eqI, sI_s, Int32.toInt_zero, Int.natCast_zero, Int.natCast_one, Int.cast_ofNat_Int, Int.reduceEq, Int.reduceLT, Int.reduceLE, Int.reduceNeg, Int.reduceNe, ne_eq, n_up, g_up, e_cat]
  all_goals exact ⟨fun h => h2 (by omega), fun h => ⟨fun h => h1 (by omega), fun h => h2 (by omega)⟩⟩
theorem ok_X7_isRow (l : Launch) : sm_spok l lay sm_mt 1 83 sp_X7_isRow := Or.inr (Or.inr (Or.inr ⟨by decide, by decide, by
  rw [mt_83]
  exact sm_method (T := TX7_) v_cok v_lok v_ka v_tok_X7 mok_X7_isRow rfl (by unfold sm_rk; simp) wf_X7_isRow (fun _ h => absurd h List.not_mem_nil) b_X7_isRow⟩))
def sp_X7_lengthOf : sm_SP := fun as g K => match as with
  | [.ref p, .int x] => (p = 6 ∨ p = 9) ∧ (sm_in x 60 → K (some (.int (rA g (p + 1) (tn x)))) g) ∧ (¬ sm_in x 60 → K (some (.int (sI 0))) g)
  | _ => False
theorem wf_X7_lengthOf : sm_wf lay (yX7_lengthOf, cX7_lengthOf, 2, (some .int)) 2 false sp_X7_lengthOf := by
  intro as g K h
  simp only [sp_X7_lengthOf] at h
  split at h
  · exact ⟨Nat.le_of_ble_eq_true rfl, by simp, rfl, fun _ => by
      rcases h.1 with rfl | rfl
      · exact ⟨6, _, 7, [9, 10], TX7, 2, rfl, rfl, rfl⟩
      · exact ⟨9, _, 7, [12, 13], TX7, 2, rfl, rfl, rfl⟩⟩
  · exact h.elim
set_option maxHeartbeats 4000000 in
set_option maxRecDepth 100000 in
theorem b_X7_lengthOf : sm_body lay NX7_lengthOf 2 0 (sm_cl [(83, sp_X7_isRow)]) sp_X7_lengthOf := by
  intro K J S hW as g hs
  have hn := n_X7_lengthOf
  have hf := fd_all
  have ha := ar_all
  generalize NX7_lengthOf = N at hn hW
  generalize lay = L at hf ha hW
  obtain ⟨hS, hR⟩ := hW
  simp only [sp_X7_lengthOf] at hs
  split at hs
  case h_2 => exact hs.elim
  simp only [e_args, sm_pad, List.length_cons, List.length_nil, Nat.reduceAdd, Nat.reduceSub, List.replicate_succ, List.replicate_zero, List.cons_append, List.nil_append]
  rename_i p x
  obtain ⟨hp, h1, h2⟩ := hs
  rcases hp with rfl | rfl
  all_goals apply hR 20
  all_goals simp (maxSteps := 10000000) (disch := omega) only [hS, hn, sm_eqs, hf, ha, sm_b0, Int.reduceToNat, ↓reduceIte, Nat.reduceEqDiff, true_and, and_true, List.length_nil, List.length_cons, Nat.reduceAdd, Nat.reduceLeDiff, Nat.zero_le, false_implies, true_implies, not_true_eq_false, not_false_eq_true, implies_true, Nat.reduceSub, Nat.reduceMul, reduceCtorEq, tn_clamp, nI_t, tn_nI, nI_add, pk_mul, rS_gS, rS_gA, rS_gL, rA_gS, rA_gA, rA_gL, rL_gS, rL_gA, rL_gL, and_self, and_false, false_and, if_true, if_false, true_or, or_true, or_false, false_or, sm_in, eqI, sI_s, Int32.toInt_zero, Int.natCast_zero, Int.natCast_one, Int.cast_ofNat_Int, Int.reduceEq, Int.reduceLT, Int.reduceLE, Int.reduceNeg, Int.reduceNe, ne_eq, n_up, g_up, e_cat, sp_X7_isRow]
  all_goals exact ⟨fun h => ⟨h, h1 h⟩, fun h => h2 h⟩
theorem ok_X7_lengthOf (l : Launch) : sm_spok l lay sm_mt 2 84 sp_X7_lengthOf := Or.inr (Or.inr (Or.inr ⟨by decide, by decide, by
  rw [mt_84]
  exact sm_method (T := TX7_) v_cok v_lok v_ka v_tok_X7 mok_X7_lengthOf rfl (by unfold sm_rk; simp) wf_X7_lengthOf (List.forall_mem_cons.mpr ⟨sm_spok_up (Nat.le_of_ble_eq_true rfl : 1 ≤ 1) (ok_X7_isRow l), fun _ h => absurd h List.not_mem_nil⟩) b_X7_lengthOf⟩))
/-- the answer to q in row x of the rows at p, as answerOf tells it -/
def aC (g : sm_G) (p : Nat) (x q : Int32) : Int32 := if 0 ≤ x.toInt ∧ x.toInt < 60 ∧ 0 ≤ q.toInt ∧ q.toInt < 16 ∧ q.toInt < (rA g (p + 1) (tn x)).toInt then rA g (p + 2) (tn x * 16 + tn q) else sI 0
def sp_X7_answerOf : sm_SP := fun as g K => match as with
  | [.ref p, .int x, .int q] => (p = 6 ∨ p = 9) ∧ K (some (.int (aC g p x q))) g
  | _ => False
theorem wf_X7_answerOf : sm_wf lay (yX7_answerOf, cX7_answerOf, 3, (some .int)) 3 false sp_X7_answerOf := by
  intro as g K h
  simp only [sp_X7_answerOf] at h
  split at h
  · exact ⟨Nat.le_of_ble_eq_true rfl, by simp, rfl, fun _ => by
      rcases h.1 with rfl | rfl
      · exact ⟨6, _, 7, [9, 10], TX7, 2, rfl, rfl, rfl⟩
      · exact ⟨9, _, 7, [12, 13], TX7, 2, rfl, rfl, rfl⟩⟩
  · exact h.elim
set_option maxHeartbeats 4000000 in
set_option maxRecDepth 100000 in
theorem b_X7_answerOf : sm_body lay NX7_answerOf 3 0 (sm_cl [(83, sp_X7_isRow)]) sp_X7_answerOf := by
  intro K J S hW as g hs
  have hn := n_X7_answerOf
  have hf := fd_all
  have ha := ar_all
  generalize NX7_answerOf = N at hn hW
  generalize lay = L at hf ha hW
  obtain ⟨hS, hR⟩ := hW
  simp only [sp_X7_answerOf] at hs
  split at hs
  case h_2 => exact hs.elim
  simp only [e_args, sm_pad, List.length_cons, List.length_nil, Nat.reduceAdd, Nat.reduceSub, List.replicate_succ, List.replicate_zero, List.cons_append, List.nil_append]
  rename_i p x q
  obtain ⟨hp, hs⟩ := hs
  by_cases hc : sm_in x 60 ∧ sm_in q 16
  · obtain ⟨i, hi, rfl⟩ := sm_in_nI hc.1
    obtain ⟨j, hj, rfl⟩ := sm_in_nI hc.2
    clear hc
    simp (disch := omega) only [aC, nI_t, tn_nI] at hs
    by_cases hlt : (j : Int) < (rA g (p + 1) i).toInt
    · rw [if_pos (by omega)] at hs
      rcases hp with rfl | rfl
      all_goals apply hR 60
      all_goals simp (maxSteps := 10000000) (disch := omega) only [hS, hn, sm_eqs, hf, ha, sm_b0, Int.reduceToNat, ↓reduceIte, Nat.reduceEqDiff, true_and, and_true, List.length_nil, List.length_cons, Nat.reduceAdd, Nat.reduceLeDiff, Nat.zero_le, false_implies, true_implies, not_true_eq_false, not_false_eq_true, implies_true, Nat.reduceSub, Nat.reduceMul, reduceCtorEq, tn_clamp, nI_t, tn_nI, nI_add, pk_mul, rS_gS, rS_gA, rS_gL, rA_gS, rA_gA, rA_gL, rL_gS, rL_gA, rL_gL, and_self, and_false, false_and, if_true, if_false, true_or, or_true, or_false, false_or, sm_in, eqI, sI_s, Int32.toInt_zero, Int.natCast_zero, Int.natCast_one, Int.cast_ofNat_Int, Int.reduceEq, Int.reduceLT, Int.reduceLE, Int.reduceNeg, Int.reduceNe, ne_eq, n_up, g_up, e_cat, sp_X7_isRow]
      all_goals simp only [Nat.reduceAdd] at hs hlt
      repeat' (first | (refine And.intro ?_ ?_) | (intro _))
      all_goals (first | with_reducible assumption | omega | (exfalso; omega))
    · rw [if_neg (by omega)] at hs
      rcases hp with rfl | rfl
      all_goals apply hR 60
      all_goals simp (maxSteps := 10000000) (disch := omega) only [hS, hn, sm_eqs, hf, ha, sm_b0, Int.reduceToNat, ↓reduceIte, Nat.reduceEqDiff, true_and, and_true, List.length_nil, List.length_cons, Nat.reduceAdd, Nat.reduceLeDiff, Nat.zero_le, false_implies, true_implies, not_true_eq_false, not_false_eq_true, implies_true, Nat.reduceSub, Nat.reduceMul, reduceCtorEq, tn_clamp, nI_t, tn_nI, nI_add, pk_mul, rS_gS, rS_gA, rS_gL, rA_gS, rA_gA, rA_gL, rL_gS, rL_gA, rL_gL, and_self, and_false, false_and, if_true, if_false, true_or, or_true, or_false, false_or, sm_in, eqI, sI_s, Int32.toInt_zero, Int.natCast_zero, Int.natCast_one, Int.cast_ofNat_Int, Int.reduceEq, Int.reduceLT, Int.reduceLE, Int.reduceNeg, Int.reduceNe, ne_eq, n_up, g_up, e_cat, sp_X7_isRow]
      all_goals simp only [Nat.reduceAdd] at hs hlt
      repeat' (first | (refine And.intro ?_ ?_) | (intro _))
      all_goals (first | with_reducible assumption | omega | (exfalso; omega))
  · have hs2 : K (some (.int (sI 0))) g := by
      simp only [aC] at hs
      rw [if_neg (fun h => hc ⟨⟨h.1, h.2.1⟩, ⟨h.2.2.1, h.2.2.2.1⟩⟩)] at hs
      exact hs
    simp only [sm_in] at hc
    rcases hp with rfl | rfl
    all_goals apply hR 60
    all_goals simp (maxSteps := 10000000) (disch := omega) only [hS, hn, sm_eqs, hf, ha, sm_b0, Int.reduceToNat, ↓reduceIte, Nat.reduceEqDiff, true_and, and_true, List.length_nil, List.length_cons, Nat.reduceAdd, Nat.reduceLeDiff, Nat.zero_le, false_implies, true_implies, not_true_eq_false, not_false_eq_true, implies_true, Nat.reduceSub, Nat.reduceMul, reduceCtorEq, tn_clamp, nI_t, tn_nI, nI_add, pk_mul, rS_gS, rS_gA, rS_gL, rA_gS, rA_gA, rA_gL, rL_gS, rL_gA, rL_gL, and_self, and_false, false_and, if_true, if_false, true_or, or_true, or_false, false_or, sm_in, eqI, sI_s, Int32.toInt_zero, Int.natCast_zero, Int.natCast_one, Int.cast_ofNat_Int, Int.reduceEq, Int.reduceLT, Int.reduceLE, Int.reduceNeg, Int.reduceNe, ne_eq, n_up, g_up, e_cat, sp_X7_isRow]
    repeat' (first | (refine And.intro ?_ ?_) | (intro _))
    all_goals (first | with_reducible assumption | omega | (exfalso; omega))
theorem ok_X7_answerOf (l : Launch) : sm_spok l lay sm_mt 2 85 sp_X7_answerOf := Or.inr (Or.inr (Or.inr ⟨by decide, by decide, by
  rw [mt_85]
  exact sm_method (T := TX7_) v_cok v_lok v_ka v_tok_X7 mok_X7_answerOf rfl (by unfold sm_rk; simp) wf_X7_answerOf (List.forall_mem_cons.mpr ⟨sm_spok_up (Nat.le_of_ble_eq_true rfl : 1 ≤ 1) (ok_X7_isRow l), fun _ h => absurd h List.not_mem_nil⟩) b_X7_answerOf⟩))
def sp_X7_cut : sm_SP := fun as g K => match as with
  | [.ref p, .int x, .int n] => (p = 6 ∨ p = 9) ∧ sm_in x 60 ∧ (∃ m : Nat, m ≤ 16 ∧ (rA g (p + 1) (tn x)) = nI m ∨ rA g (p + 1) (tn x) = sI 0) ∧
      ((rA g (p + 1) (tn x)).toInt ≠ -1 ∧ -1 ≤ n.toInt ∧ n.toInt ≤ (rA g (p + 1) (tn x)).toInt → K (some (.int (nI 1))) (gA g (p + 1) (upd (rA g (p + 1)) (tn x) n))) ∧
      (¬ ((rA g (p + 1) (tn x)).toInt ≠ -1 ∧ -1 ≤ n.toInt ∧ n.toInt ≤ (rA g (p + 1) (tn x)).toInt) → K (some (.int (nI 0))) g)
  | _ => False
theorem wf_X7_cut : sm_wf lay (yX7_cut, cX7_cut, 3, (some .boolean)) 3 false sp_X7_cut := by
  intro as g K h
  simp only [sp_X7_cut] at h
  split at h
  · exact ⟨Nat.le_of_ble_eq_true rfl, by simp, rfl, fun _ => by
      rcases h.1 with rfl | rfl
      · exact ⟨6, _, 7, [9, 10], TX7, 2, rfl, rfl, rfl⟩
      · exact ⟨9, _, 7, [12, 13], TX7, 2, rfl, rfl, rfl⟩⟩
  · exact h.elim
set_option maxHeartbeats 4000000 in
set_option maxRecDepth 100000 in
theorem b_X7_cut : sm_body lay NX7_cut 3 1 (sm_cl [(83, sp_X7_isRow)]) sp_X7_cut := by
  intro K J S hW as g hs
  have hn := n_X7_cut
  have hf := fd_all
  have ha := ar_all
  generalize NX7_cut = N at hn hW
  generalize lay = L at hf ha hW
  obtain ⟨hS, hR⟩ := hW
  simp only [sp_X7_cut] at hs
  split at hs
  case h_2 => exact hs.elim
  simp only [e_args, sm_pad, List.length_cons, List.length_nil, Nat.reduceAdd, Nat.reduceSub, List.replicate_succ, List.replicate_zero, List.cons_append, List.nil_append]
  rename_i p x n
  obtain ⟨hp, hx, hm, h1, h2⟩ := hs
  obtain ⟨i, hi, rfl⟩ := sm_in_nI hx
  simp (disch := omega) only [tn_nI] at h1 h2 hm
  rcases hp with rfl | rfl
  all_goals apply hR 60
  all_goals simp (maxSteps := 10000000) (disch := omega) only [hS, hn, sm_eqs, hf, ha, sm_b0, Int.reduceToNat, ↓reduceIte, Nat.reduceEqDiff, true_and, and_true, List.length_nil, List.length_cons, Nat.reduceAdd, Nat.reduceLeDiff, Nat.zero_le, false_implies, true_implies, not_true_eq_false, not_false_eq_true, implies_true, Nat.reduceSub, Nat.reduceMul, reduceCtorEq, tn_clamp, nI_t, tn_nI, nI_add, pk_mul, rS_gS, rS_gA, rS_gL, rA_gS, rA_gA, rA_gL, rL_gS, rL_gA, rL_gL, and_self, and_false, false_and, if_true, if_false, true_or, or_true, or_false, false_or, sm_in, eqI, sI_s, Int32.toInt_zero, Int.natCast_zero, Int.natCast_one, Int.cast_ofNat_Int, Int.reduceEq, Int.reduceLT, Int.reduceLE, Int.reduceNeg, Int.reduceNe, ne_eq, n_up, g_up, e_cat, sp_X7_isRow]
  all_goals simp only [Nat.reduceAdd] at h1 h2 hm
  all_goals clear hn hf ha hS hR
  all_goals grind
theorem ok_X7_cut (l : Launch) : sm_spok l lay sm_mt 2 87 sp_X7_cut := Or.inr (Or.inr (Or.inr ⟨by decide, by decide, by
  rw [mt_87]
  exact sm_method (T := TX7_) v_cok v_lok v_ka v_tok_X7 mok_X7_cut rfl (by unfold sm_rk; simp) wf_X7_cut (List.forall_mem_cons.mpr ⟨sm_spok_up (Nat.le_of_ble_eq_true rfl : 1 ≤ 1) (ok_X7_isRow l), fun _ h => absurd h List.not_mem_nil⟩) b_X7_cut⟩))
