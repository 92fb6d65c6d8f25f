/-! The group's members and goods in their rows. -/
/-- a row holds a list -/
def hol (M : Nat → Int32) (l : List Nat) : Prop := ∀ k x, l[k]? = some x → M k = nI x
theorem hol_add {M : Nat → Int32} {l : List Nat} (h : hol M l) (x : Nat) : hol (upd M l.length (nI x)) (l ++ [x]) := by
  intro k y hk
  rw [List.getElem?_append] at hk
  by_cases e : k < l.length
  · rw [if_pos e] at hk; rw [pk_un (by omega)]; exact h k y hk
  · rw [if_neg e] at hk
    have : k - l.length = 0 := by
      by_cases e2 : k - l.length = 0
      · exact e2
      · rw [List.getElem?_eq_none (by simp; omega)] at hk; cases hk
    have e3 : k = l.length := by omega
    rw [this] at hk; simp at hk; subst hk; rw [e3]; exact pk_us
theorem gS_self {g : sm_G} {p c : Nat} {v : Int32} (h : rS g p c = v) : gS g p c v = g := by
  subst h
  refine Prod.ext (funext fun a => funext fun b => ?_) rfl
  simp only [gS, rS]; split
  · rename_i h; rw [h.1, h.2]
  · rfl
def shA (fs : Nat → Int64) (f : Nat → Bool) : Nat → Int64
  | 0 => lN 0
  | n + 1 => if f n = true then shA fs f n ||| fs n else shA fs f n
theorem bit_shA (fs : Nat → Int64) (f : Nat → Bool) (t : Nat) : ∀ n, bitL (shA fs f n) t = true ↔ ∃ i, i < n ∧ f i = true ∧ bitL (fs i) t = true := by
  intro n
  induction n with
  | zero => simp [shA, bit_0]
  | succ n ih =>
    simp only [shA]
    by_cases hf : f n = true
    · rw [if_pos hf, bit_lor, Bool.or_eq_true, ih]
      constructor
      · rintro (⟨i, h1, h2⟩ | h)
        · exact ⟨i, by omega, h2⟩
        · exact ⟨n, by omega, hf, h⟩
      · rintro ⟨i, h1, h2, h3⟩
        by_cases e : i = n
        · subst e; exact Or.inr h3
        · exact Or.inl ⟨i, by omega, h2, h3⟩
    · rw [if_neg hf, ih]
      constructor
      · rintro ⟨i, h1, h2⟩; exact ⟨i, by omega, h2⟩
      · rintro ⟨i, h1, h2, h3⟩
        by_cases e : i = n
        · subst e; exact absurd h2 hf
        · exact ⟨i, by omega, h2, h3⟩
def sp_X3_listMembers : sm_SP := fun as g K => match as with
  | [.ref p, .long ins] => p = 33 ∧ (rS g 33 306).toInt = 0 ∧ (rS g 33 307).toInt = 0 ∧ (∀ M G' : Nat → Int32, hol M (lst (bitL ins) 60) → hol G' (lst (bitL (shA (rL g 43) (bitL ins) 60)) 60) → K none (gS (gS (gA (gA g 44 M) 45 G') 33 306 (nI (cnt (bitL ins) 60))) 33 307 (nI (cnt (bitL (shA (rL g 43) (bitL ins) 60)) 60))))
  | _ => False
theorem wf_X3_listMembers : sm_wf lay (yX3_listMembers, cX3_listMembers, 6, none) 2 false sp_X3_listMembers := by
  intro as g K h
  simp only [sp_X3_listMembers] at h
  split at h
  · exact ⟨Nat.le_of_ble_eq_true rfl, by simp, rfl, fun _ => by obtain rfl := h.1; exact ⟨33, _, 3, [33, 14, 36, 45, 46, 47, 1, 1], TX3, 8, rfl, rfl, rfl⟩⟩
  · exact h.elim
set_option maxHeartbeats 4000000 in
set_option maxRecDepth 100000 in
theorem b_X3_listMembers : sm_body lay NX3_listMembers 6 4 (sm_cl [(132, sp_X9_isIn)]) sp_X3_listMembers := by
  intro K J S hW as g hs
  have hn := n_X3_listMembers
  have hf := fd_all
  have ha := ar_all
  generalize NX3_listMembers = N at hn hW
  generalize lay = L at hf ha hW
  obtain ⟨hS, hR⟩ := hW
  simp only [sp_X3_listMembers] at hs
  split at hs
  case h_2 => exact hs.elim
  simp only [e_args, sm_pad, List.length_cons, List.length_nil, Nat.reduceAdd, Nat.reduceSub, List.replicate_succ, List.replicate_zero, List.cons_append, List.nil_append]
  rename_i p ins
  obtain ⟨rfl, hr0, ht0, hs⟩ := hs
  have hr0 : rS g 33 306 = nI 0 := Int32.toInt_inj.mp (by rw [hr0]; rfl)
  have ht0 : rS g 33 307 = nI 0 := Int32.toInt_inj.mp (by rw [ht0]; rfl)
  have l2 : ∀ sh : Int64, sh = shA (rL g 43) (bitL ins) 60 → ∀ m t, m = 60 - t → t ≤ 60 → ∀ M G' a, hol M (lst (bitL ins) 60) → a = cnt (bitL ins) 60 → hol G' (lst (bitL sh) t) → ∀ b, b = cnt (bitL sh) t → J 61 [some (.ref 33), some (.long ins), none, some (.long sh), none, some (.int (nI t))] [] (gS (gS (gA (gA g 44 M) 45 G') 33 306 (nI a)) 33 307 (nI b)) := by
    intro sh hsh m
    induction m with
    | zero =>
      intro t hm ht M G' a hM ha2 hG b hb2
      obtain rfl : t = 60 := by omega
      have hs := hs M G' hM (by rw [← hsh]; exact hG)
      rw [← hsh, ← ha2, ← hb2] at hs
      apply hR 60
      simp (maxSteps := 10000000) (disch := omega) only [hS, hn, sm_eqs, hf, ha, sm_b0, Int.reduceToNat, ↓reduceIte, Nat.reduceEqDiff, true_and, and_true, List.length_nil, List.length_cons, Nat.reduceAdd, Nat.reduceLeDiff, Nat.zero_le, false_implies, true_implies, not_true_eq_false, not_false_eq_true, implies_true, Nat.reduceSub, Nat.reduceMul, Nat.reduceDiv, reduceCtorEq, tn_clamp, nI_t, tn_nI, nI_add, pk_mul, rS_gS, rS_gA, rS_gL, rA_gS, rA_gA, rA_gL, rL_gS, rL_gA, rL_gL, and_self, and_false, false_and, if_true, if_false, true_or, or_true, or_false, false_or, sm_in, eqI, sI_s, Int32.toInt_zero, Int.natCast_zero, Int.natCast_one, Int.cast_ofNat_Int, Int.reduceEq, Int.reduceLT, Int.reduceLE, Int.reduceNeg, Int.reduceNe, ne_eq, n_up, g_up, e_cat, fr_A, fr_O, fr_P, fr_L, sp_X9_isIn]
      exact hs
    | succ m ih =>
      intro t hm ht M G' a hM ha2 hG b hb2
      have hbl := cnt_le (bitL sh) t
      rw [← hb2] at hbl
      have e1 : bitL sh t = true → J 61 [some (.ref 33), some (.long ins), none, some (.long sh), none, some (.int (nI (t + 1)))] [] (gS (gS (gA (gA g 44 M) 45 (upd G' b (nI t))) 33 306 (nI a)) 33 307 (nI (b + 1))) := fun h => ih (t + 1) (by omega) (by omega) M _ a hM ha2 (by
        have := hol_add hG t
        rw [lst_len, ← hb2] at this
        simp only [lst]; rw [if_pos h]; exact this) (b + 1) (by simp only [cnt]; rw [if_pos h, hb2])
      have e0 : bitL sh t = false → J 61 [some (.ref 33), some (.long ins), none, some (.long sh), none, some (.int (nI (t + 1)))] [] (gS (gS (gA (gA g 44 M) 45 G') 33 306 (nI a)) 33 307 (nI b)) := fun h => ih (t + 1) (by omega) (by omega) M _ a hM ha2 (by
        simp only [lst]; rw [if_neg (by rw [h]; decide)]; exact hG) b (by simp only [cnt]; rw [if_neg (by rw [h]; decide), hb2]; rfl)
      clear ih hs
      cases hb3 : bitL sh t with
      | true =>
        have e1 := e1 hb3
        apply hR 60
        simp (maxSteps := 10000000) (disch := omega) only [hS, hn, sm_eqs, hf, ha, sm_b0, Int.reduceToNat, ↓reduceIte, Nat.reduceEqDiff, true_and, and_true, List.length_nil, List.length_cons, Nat.reduceAdd, Nat.reduceLeDiff, Nat.zero_le, false_implies, true_implies, not_true_eq_false, not_false_eq_true, implies_true, Nat.reduceSub, Nat.reduceMul, Nat.reduceDiv, reduceCtorEq, tn_clamp, nI_t, tn_nI, nI_add, pk_mul, rS_gS, rS_gA, rS_gL, rA_gS, rA_gA, rA_gL, rL_gS, rL_gA, rL_gL, and_self, and_false, false_and, if_true, if_false, true_or, or_true, or_false, false_or, sm_in, eqI, sI_s, Int32.toInt_zero, Int.natCast_zero, Int.natCast_one, Int.cast_ofNat_Int, Int.reduceEq, Int.reduceLT, Int.reduceLE, Int.reduceNeg, Int.reduceNe, ne_eq, n_up, g_up, e_cat, fr_A, fr_O, fr_P, fr_L, sp_X9_isIn, hb3]
        exact ⟨fun _ => ⟨by omega, by omega, e1⟩, fun h => absurd h (by omega)⟩
      | false =>
        have e0 := e0 hb3
        apply hR 60
        simp (maxSteps := 10000000) (disch := omega) only [hS, hn, sm_eqs, hf, ha, sm_b0, Int.reduceToNat, ↓reduceIte, Nat.reduceEqDiff, true_and, and_true, List.length_nil, List.length_cons, Nat.reduceAdd, Nat.reduceLeDiff, Nat.zero_le, false_implies, true_implies, not_true_eq_false, not_false_eq_true, implies_true, Nat.reduceSub, Nat.reduceMul, Nat.reduceDiv, reduceCtorEq, tn_clamp, nI_t, tn_nI, nI_add, pk_mul, rS_gS, rS_gA, rS_gL, rA_gS, rA_gA, rA_gL, rL_gS, rL_gA, rL_gL, and_self, and_false, false_and, if_true, if_false, true_or, or_true, or_false, false_or, sm_in, eqI, sI_s, Int32.toInt_zero, Int.natCast_zero, Int.natCast_one, Int.cast_ofNat_Int, Int.reduceEq, Int.reduceLT, Int.reduceLE, Int.reduceNeg, Int.reduceNe, ne_eq, n_up, g_up, e_cat, fr_A, fr_O, fr_P, fr_L, sp_X9_isIn, hb3]
        exact ⟨fun _ => ⟨by omega, e0⟩, fun h => absurd h (by omega)⟩
  have l1 : ∀ m r, m = 60 - r → r ≤ 60 → ∀ M a sh, hol M (lst (bitL ins) r) → a = cnt (bitL ins) r → sh = shA (rL g 43) (bitL ins) r → J 5 [some (.ref 33), some (.long ins), none, some (.long sh), none, some (.int (nI r))] [] (gS (gA g 44 M) 33 306 (nI a)) := by
    intro m
    induction m with
    | zero =>
      intro r hm hr M a sh hM ha2 hsh
      obtain rfl : r = 60 := by omega
      have h0 := l2 sh hsh _ 0 rfl (Nat.zero_le _) M (rA g 45) a hM ha2 (fun k x h => by cases h) 0 rfl
      have e : gS (gS (gA (gA g 44 M) 45 (rA g 45)) 33 306 (nI a)) 33 307 (nI 0) = gS (gA g 44 M) 33 306 (nI a) := by
        rw [show rA g 45 = rA (gA g 44 M) 45 from rfl, gA_self]
        exact gS_self (by rw [rS_gS, rS_gA, if_neg (by omega)]; exact ht0)
      rw [e] at h0
      clear l2 hs
      apply hR 60
      simp (maxSteps := 10000000) (disch := omega) only [hS, hn, sm_eqs, hf, ha, sm_b0, Int.reduceToNat, ↓reduceIte, Nat.reduceEqDiff, true_and, and_true, List.length_nil, List.length_cons, Nat.reduceAdd, Nat.reduceLeDiff, Nat.zero_le, false_implies, true_implies, not_true_eq_false, not_false_eq_true, implies_true, Nat.reduceSub, Nat.reduceMul, Nat.reduceDiv, reduceCtorEq, tn_clamp, nI_t, tn_nI, nI_add, pk_mul, rS_gS, rS_gA, rS_gL, rA_gS, rA_gA, rA_gL, rL_gS, rL_gA, rL_gL, and_self, and_false, false_and, if_true, if_false, true_or, or_true, or_false, false_or, sm_in, eqI, sI_s, Int32.toInt_zero, Int.natCast_zero, Int.natCast_one, Int.cast_ofNat_Int, Int.reduceEq, Int.reduceLT, Int.reduceLE, Int.reduceNeg, Int.reduceNe, ne_eq, n_up, g_up, e_cat, fr_A, fr_O, fr_P, fr_L, sp_X9_isIn]
      clear hn hf ha hS hR
      grind
    | succ m ih =>
      intro r hm hr M a sh hM ha2 hsh
      have hbl := cnt_le (bitL ins) r
      rw [← ha2] at hbl
      have e1 : bitL ins r = true → J 5 [some (.ref 33), some (.long ins), none, some (.long (sh ||| rL g 43 r)), none, some (.int (nI (r + 1)))] [] (gS (gA g 44 (upd M a (nI r))) 33 306 (nI (a + 1))) := fun h => ih (r + 1) (by omega) (by omega) _ (a + 1) _ (by
        have := hol_add hM r
        rw [lst_len, ← ha2] at this
        simp only [lst]; rw [if_pos h]; exact this) (by simp only [cnt]; rw [if_pos h, ha2]) (by simp only [shA]; rw [if_pos h, hsh])
      have e0 : bitL ins r = false → J 5 [some (.ref 33), some (.long ins), none, some (.long sh), none, some (.int (nI (r + 1)))] [] (gS (gA g 44 M) 33 306 (nI a)) := fun h => ih (r + 1) (by omega) (by omega) _ a _ (by
        simp only [lst]; rw [if_neg (by rw [h]; decide)]; exact hM) (by simp only [cnt]; rw [if_neg (by rw [h]; decide), ha2]; rfl) (by simp only [shA]; rw [if_neg (by rw [h]; decide), hsh])
      clear ih hs l2
      cases hb3 : bitL ins r with
      | true =>
        have e1 := e1 hb3
        apply hR 60
        simp (maxSteps := 10000000) (disch := omega) only [hS, hn, sm_eqs, hf, ha, sm_b0, Int.reduceToNat, ↓reduceIte, Nat.reduceEqDiff, true_and, and_true, List.length_nil, List.length_cons, Nat.reduceAdd, Nat.reduceLeDiff, Nat.zero_le, false_implies, true_implies, not_true_eq_false, not_false_eq_true, implies_true, Nat.reduceSub, Nat.reduceMul, Nat.reduceDiv, reduceCtorEq, tn_clamp, nI_t, tn_nI, nI_add, pk_mul, rS_gS, rS_gA, rS_gL, rA_gS, rA_gA, rA_gL, rL_gS, rL_gA, rL_gL, and_self, and_false, false_and, if_true, if_false, true_or, or_true, or_false, false_or, sm_in, eqI, sI_s, Int32.toInt_zero, Int.natCast_zero, Int.natCast_one, Int.cast_ofNat_Int, Int.reduceEq, Int.reduceLT, Int.reduceLE, Int.reduceNeg, Int.reduceNe, ne_eq, n_up, g_up, e_cat, fr_A, fr_O, fr_P, fr_L, sp_X9_isIn, hb3]
        exact ⟨fun _ => ⟨by omega, by omega, by omega, e1⟩, fun h => absurd h (by omega)⟩
      | false =>
        have e0 := e0 hb3
        apply hR 60
        simp (maxSteps := 10000000) (disch := omega) only [hS, hn, sm_eqs, hf, ha, sm_b0, Int.reduceToNat, ↓reduceIte, Nat.reduceEqDiff, true_and, and_true, List.length_nil, List.length_cons, Nat.reduceAdd, Nat.reduceLeDiff, Nat.zero_le, false_implies, true_implies, not_true_eq_false, not_false_eq_true, implies_true, Nat.reduceSub, Nat.reduceMul, Nat.reduceDiv, reduceCtorEq, tn_clamp, nI_t, tn_nI, nI_add, pk_mul, rS_gS, rS_gA, rS_gL, rA_gS, rA_gA, rA_gL, rL_gS, rL_gA, rL_gL, and_self, and_false, false_and, if_true, if_false, true_or, or_true, or_false, false_or, sm_in, eqI, sI_s, Int32.toInt_zero, Int.natCast_zero, Int.natCast_one, Int.cast_ofNat_Int, Int.reduceEq, Int.reduceLT, Int.reduceLE, Int.reduceNeg, Int.reduceNe, ne_eq, n_up, g_up, e_cat, fr_A, fr_O, fr_P, fr_L, sp_X9_isIn, hb3]
        exact ⟨fun _ => ⟨by omega, e0⟩, fun h => absurd h (by omega)⟩
  have h0 := l1 _ 0 rfl (Nat.zero_le _) (rA g 44) 0 (lN 0) (fun k x h => by cases h) rfl rfl
  rw [gA_self, gS_self hr0] at h0
  apply hR 60
  simp (maxSteps := 10000000) (disch := omega) only [hS, hn, sm_eqs, hf, ha, sm_b0, Int.reduceToNat, ↓reduceIte, Nat.reduceEqDiff, true_and, and_true, List.length_nil, List.length_cons, Nat.reduceAdd, Nat.reduceLeDiff, Nat.zero_le, false_implies, true_implies, not_true_eq_false, not_false_eq_true, implies_true, Nat.reduceSub, Nat.reduceMul, Nat.reduceDiv, reduceCtorEq, tn_clamp, nI_t, tn_nI, nI_add, pk_mul, rS_gS, rS_gA, rS_gL, rA_gS, rA_gA, rA_gL, rL_gS, rL_gA, rL_gL, and_self, and_false, false_and, if_true, if_false, true_or, or_true, or_false, false_or, sm_in, eqI, sI_s, Int32.toInt_zero, Int.natCast_zero, Int.natCast_one, Int.cast_ofNat_Int, Int.reduceEq, Int.reduceLT, Int.reduceLE, Int.reduceNeg, Int.reduceNe, ne_eq, n_up, g_up, e_cat, fr_A, fr_O, fr_P, fr_L, sp_X9_isIn]
  exact h0
theorem ok_X3_listMembers (l : Launch) : sm_spok l lay sm_mt 2 51 sp_X3_listMembers := Or.inr (Or.inr (Or.inr ⟨by decide, by decide, by
  rw [mt_51]
  exact sm_method (T := TX3_) v_cok v_lok v_ka v_tok_X3 mok_X3_listMembers rfl (by unfold sm_rk; simp) wf_X3_listMembers (List.forall_mem_cons.mpr ⟨sm_spok_up (Nat.le_of_ble_eq_true rfl : 1 ≤ 1) (ok_X9_isIn l), fun _ h => absurd h List.not_mem_nil⟩) b_X3_listMembers⟩))
