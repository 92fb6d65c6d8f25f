/-! The reference: the group, by marking till nothing is new. -/
theorem lst_ext (f : Nat → Bool) {m : Nat} : ∀ n, m ≤ n → (∀ i, m ≤ i → i < n → f i = false) → lst f n = lst f m := by
  intro n
  induction n with
  | zero =>
    intro h _
    obtain rfl : m = 0 := by omega
    rfl
  | succ n ih =>
    intro h hf
    by_cases e : m = n + 1
    · rw [e]
    · simp only [lst]
      rw [if_neg (by rw [hf n (by omega) (by omega)]; decide)]
      exact ih (by omega) (fun i h1 h2 => hf i h1 (by omega))
theorem gF_bit {c : sm_G} {i t : Nat} (hn : nT c ≤ 60) : bitL (gF c i) t = true ↔ (rA c 14 i).toInt = 1 ∧ t < nT c ∧ ftC c i t := by
  unfold gF
  by_cases e : (rA c 14 i).toInt = 1
  · rw [if_pos e, bit_sOf _ _ _ (by omega), Bool.and_eq_true, decide_eq_true_eq, dc_t]
    exact ⟨fun h => ⟨e, h.1, h.2⟩, fun h => ⟨h.2.1, h.2.2⟩⟩
  · rw [if_neg e, bit_0]
    exact ⟨fun h => absurd h (by decide), fun h => absurd h.1 e⟩
/-- what is marked is of the group -/
def mkI (c : sm_G) (r : Nat) (A B : Nat → Int32) : Prop := (∀ k, k < 60 → A k = nI 0 ∨ A k = nI 1) ∧ (∀ t, t < 60 → B t = nI 0 ∨ B t = nI 1) ∧ A r = nI 1 ∧ (∀ k, k < 60 → A k = nI 1 → mbr c r k) ∧ (∀ t, t < 60 → B t = nI 1 → thg c r t)
/-- a report and a thing that it fits are both marked, or neither -/
def pok (c : sm_G) (A B : Nat → Int32) (k t : Nat) : Prop := (rA c 14 k).toInt = 1 → ftC c k t → A k = B t
noncomputable def mkN (A B : Nat → Int32) : Nat := cnt (fun k => dc (A k = nI 1)) 60 + cnt (fun t => dc (B t = nI 1)) 60
theorem mkN_le (A B : Nat → Int32) : mkN A B ≤ 120 := by
  have h1 := cnt_le (fun k => dc (A k = nI 1)) 60
  have h2 := cnt_le (fun k => dc (B k = nI 1)) 60
  unfold mkN; omega
theorem mk_fin {c : sm_G} {r : Nat} {A B : Nat → Int32} (hr : r < nR c) (hn : nT c ≤ 60) (h : mkI c r A B) (hc : ∀ k t, k < nR c → t < nT c → pok c A B k t) : (∀ k, k < 60 → (A k = nI 1 ↔ mbr c r k)) ∧ (∀ t, t < 60 → (B t = nI 1 ↔ thg c r t)) := by
  have h1 : ∀ k, mbr c r k → A k = nI 1 := fun k hk => hk (fun i => A i = nI 1) h.2.2.1 (fun a b ha hb hPa ⟨t, ht, ta, tb⟩ => by
    have ta := (gF_bit hn).mp ta
    have tb := (gF_bit hn).mp tb
    have e1 := hc a t ha ta.2.1 ta.1 ta.2.2
    have e2 := hc b t hb tb.2.1 tb.1 tb.2.2
    (try dsimp only at hPa ⊢)
    rw [e2, ← e1]; exact hPa)
  refine ⟨fun k hk => ⟨h.2.2.2.1 k hk, h1 k⟩, fun t ht => ⟨h.2.2.2.2 t ht, fun ⟨i, hi, hb⟩ => ?_⟩⟩
  have hb := (gF_bit hn).mp hb
  rw [← hc i t (con_lt hr hi) hb.2.1 hb.1 hb.2.2]
  exact h1 i hi
theorem upd_or {A : Nat → Int32} {k : Nat} (h : ∀ i, i < 60 → A i = nI 0 ∨ A i = nI 1) : ∀ i, i < 60 → upd A k (nI 1) i = nI 0 ∨ upd A k (nI 1) i = nI 1 := fun i hi => by
  by_cases e : i = k
  · rw [e, pk_us]; exact Or.inr rfl
  · rw [pk_un e]; exact h i hi
theorem mk_step {c : sm_G} {r k t : Nat} {A B : Nat → Int32} (hr : r < nR c) (hR : nR c ≤ 60) (hn : nT c ≤ 60) (h : mkI c r A B) (hk : k < nR c) (ht : t < nT c) (ho : (rA c 14 k).toInt = 1) (hf : ftC c k t) (hne : A k ≠ B t) : mkI c r (upd A k (nI 1)) (upd B t (nI 1)) ∧ mkN A B + 1 ≤ mkN (upd A k (nI 1)) (upd B t (nI 1)) := by
  have hbit : bitL (gF c k) t = true := (gF_bit hn).mpr ⟨ho, ht, hf⟩
  have hm : mbr c r k := by
    rcases h.1 k (by omega) with e | e
    · rcases h.2.1 t (by omega) with e2 | e2
      · exact absurd (by rw [e, e2]) hne
      · obtain ⟨i, hi, hb⟩ := h.2.2.2.2 t (by omega) e2
        exact fun P hP hc => hc i k (con_lt hr hi) hk (hi P hP hc) ⟨t, by omega, hb, hbit⟩
    · exact h.2.2.2.1 k (by omega) e
  have m1 : ∀ i, i < 60 → dc (A i = nI 1) = true → dc (upd A k (nI 1) i = nI 1) = true := fun i _ e => by
    by_cases e2 : i = k
    · rw [e2, pk_us]; exact dc_t.mpr rfl
    · rw [pk_un e2]; exact e
  have m2 : ∀ i, i < 60 → dc (B i = nI 1) = true → dc (upd B t (nI 1) i = nI 1) = true := fun i _ e => by
    by_cases e2 : i = t
    · rw [e2, pk_us]; exact dc_t.mpr rfl
    · rw [pk_un e2]; exact e
  refine ⟨⟨upd_or h.1, upd_or h.2.1, ?_, fun i hi e => ?_, fun u hu e => ?_⟩, ?_⟩
  · by_cases e : r = k
    · rw [e, pk_us]
    · rw [pk_un e]; exact h.2.2.1
  · by_cases e2 : i = k
    · rw [e2]; exact hm
    · rw [pk_un e2] at e; exact h.2.2.2.1 i hi e
  · by_cases e2 : u = t
    · rw [e2]; exact ⟨k, hm, hbit⟩
    · rw [pk_un e2] at e; exact h.2.2.2.2 u hu e
  · unfold mkN
    have c1 := cnt_mono 60 m1
    have c2 := cnt_mono 60 m2
    rcases h.1 k (by omega) with e | e
    · have := cnt_lt 60 m1 ⟨k, by omega, dc_f.mpr (by rw [e]; decide), dc_t.mpr (by rw [pk_us])⟩
      omega
    · rcases h.2.1 t (by omega) with e2 | e2
      · have := cnt_lt 60 m2 ⟨t, by omega, dc_f.mpr (by rw [e2]; decide), dc_t.mpr (by rw [pk_us])⟩
        omega
      · exact absurd (by rw [e, e2]) hne
def sp_X10_findGroup (c : sm_G) : sm_SP := fun as g K => match as with
  | [.ref p, .int r] => p = 53 ∧ CP c g ∧ opn c r ∧ (∀ A B M G, hol M (memL c (tn r)) → hol G (gdL c (tn r)) → K none (gS (gS (gA (gA (gA (gA g 72 A) 73 B) 74 M) 75 G) 53 1027 (nI (memL c (tn r)).length)) 53 1028 (nI (gdL c (tn r)).length)))
  | _ => False
theorem wf_X10_findGroup (c : sm_G) : sm_wf lay (yX10_findGroup, cX10_findGroup, 5, none) 2 false (sp_X10_findGroup c) := by
  intro as g K h
  simp only [sp_X10_findGroup] at h
  split at h
  · exact ⟨Nat.le_of_ble_eq_true rfl, by simp, rfl, fun _ => by obtain rfl := h.1; exact ⟨53, _, 10, [1, 1, 56, 57, 58, 59, 60, 61, 1, 1, 62, 63, 64, 65, 66, 67, 68, 69, 70, 71, 72, 73, 1, 74, 75, 76, 77, 1, 1, 78, 79, 1, 80, 1, 81, 1, 82, 83, 84, 85, 86, 1], TX10, 42, rfl, rfl, rfl⟩⟩
  · exact h.elim
set_option maxHeartbeats 4000000 in
set_option maxRecDepth 100000 in
theorem b_X10_findGroup (c : sm_G) : sm_body lay NX10_findGroup 5 4 (sm_cl [(182, sp_X10_isFitIn c)]) (sp_X10_findGroup c) := by
  intro K J S hW as g hs
  have hn := n_X10_findGroup
  have hf := fd_all
  have ha := ar_all
  generalize NX10_findGroup = N at hn hW
  generalize lay = L at hf ha hW
  obtain ⟨hS, hR⟩ := hW
  simp only [sp_X10_findGroup] at hs
  split at hs
  case h_2 => exact hs.elim
  simp only [e_args, sm_pad, List.length_cons, List.length_nil, Nat.reduceAdd, Nat.reduceSub, List.replicate_succ, List.replicate_zero, List.cons_append, List.nil_append]
  rename_i p r
  obtain ⟨rfl, h, ho, hs⟩ := hs
  have hn2 := CP_n h
  have ht0 := h.2.2.2.1.1
  have hr0 := h.2.2.1.1
  have hcl := h.2.2.1.2.2.2.2.2.2.1
  obtain ⟨r, hr2, rfl⟩ := ok_nI ho.1
  clear ho
  rw [tn_nI (by omega)] at hs
  have eM : memL c r = lst (fun i => dc (mbr c r i)) (nR c) := lst_ext _ _ hn2.2.1 (fun i h1 _ => dc_f.mpr (fun h2 => by have := con_lt hr2 h2; omega))
  have eG : gdL c r = lst (fun t => dc (thg c r t)) (nT c) := lst_ext _ _ hn2.2.2.1 (fun t h1 _ => dc_f.mpr (fun ⟨i, _, hb⟩ => by have := ((gF_bit hn2.2.2.1).mp hb).2.1; omega))
  have lT : ∀ A B M, hol M (memL c r) → (∀ t, t < 60 → (B t = nI 1 ↔ thg c r t)) → (∀ t, t < 60 → B t = nI 0 ∨ B t = nI 1) → ∀ d t, d = nT c - t → t ≤ nT c → ∀ G n, hol G (lst (fun t => dc (thg c r t)) t) → n = (lst (fun t => dc (thg c r t)) t).length → ∀ (m2 : Int32) v4,
      J 211 [some (.ref 53), some (.int (nI r)), some (.int m2), some (.int (nI t)), v4] [] (gS (gS (gA (gA (gA (gA g 72 A) 73 B) 74 M) 75 G) 53 1027 (nI (memL c r).length)) 53 1028 (nI n)) := by
    intro A B M hM hB hB2 d
    induction d with
    | zero =>
      intro t hd ht G n hG hn9 m2 v4
      obtain rfl : t = nT c := by omega
      rw [← eG] at hG hn9
      have hs := hs A B M G hM hG
      rw [← hn9] at hs
      apply hR 60
      simp (maxSteps := 10000000) (disch := omega) only [hS, hn, sm_eqs, hf, ha, sm_b0, Int.reduceToNat, ↓reduceIte, Nat.reduceEqDiff, true_and, and_true, List.length_nil, List.length_cons, Nat.reduceAdd, Nat.reduceLeDiff, Nat.zero_le, false_implies, true_implies, not_true_eq_false, not_false_eq_true, implies_true, Nat.reduceSub, Nat.reduceMul, Nat.reduceDiv, reduceCtorEq, tn_clamp, nI_t, tn_nI, nI_add, pk_mul, rS_gS, rS_gA, rS_gL, rA_gS, rA_gA, rA_gL, rL_gS, rL_gA, rL_gL, and_self, and_false, false_and, if_true, if_false, true_or, or_true, or_false, false_or, sm_in, eqI, sI_s, Int32.toInt_zero, Int.natCast_zero, Int.natCast_one, Int.cast_ofNat_Int, Int.reduceEq, Int.reduceLT, Int.reduceLE, Int.reduceNeg, Int.reduceNe, ne_eq, n_up, g_up, e_cat, fr_A, fr_O, fr_P, fr_L, sp_X10_isFitIn, ht0]
      repeat' (first | (refine And.intro ?_ ?_) | (intro _))
      all_goals (first | with_reducible assumption | omega | (exfalso; omega))
    | succ d ih =>
      intro t hd ht G n hG hn9 m2 v4
      have hle : n ≤ t := by rw [hn9, lst_len]; exact cnt_le _ _
      have e1 : thg c r t → J 211 [some (.ref 53), some (.int (nI r)), some (.int m2), some (.int (nI (t + 1))), v4] [] (gS (gS (gA (gA (gA (gA g 72 A) 73 B) 74 M) 75 (upd G n (nI t))) 53 1027 (nI (memL c r).length)) 53 1028 (nI (n + 1))) := fun a => ih (t + 1) (by omega) (by omega) _ _ (by
        have := hol_add hG t
        rw [← hn9] at this
        simp only [lst]; rw [if_pos (dc_t.mpr a)]; exact this) (by simp only [lst]; rw [if_pos (dc_t.mpr a), List.length_append, ← hn9]; rfl) _ _
      have e0 : ¬ thg c r t → J 211 [some (.ref 53), some (.int (nI r)), some (.int m2), some (.int (nI (t + 1))), v4] [] (gS (gS (gA (gA (gA (gA g 72 A) 73 B) 74 M) 75 G) 53 1027 (nI (memL c r).length)) 53 1028 (nI n)) := fun a => ih (t + 1) (by omega) (by omega) _ _ (by
        simp only [lst]; rw [if_neg (fun b => a (dc_t.mp b))]; exact hG) (by simp only [lst]; rw [if_neg (fun b => a (dc_t.mp b)), ← hn9]) _ _
      clear ih hs
      by_cases hb : B t = nI 1
      · have e1 := e1 ((hB t (by omega)).mp hb)
        clear e0
        apply hR 60
        simp (maxSteps := 10000000) (disch := omega) only [hS, hn, sm_eqs, hf, ha, sm_b0, Int.reduceToNat, ↓reduceIte, Nat.reduceEqDiff, true_and, and_true, List.length_nil, List.length_cons, Nat.reduceAdd, Nat.reduceLeDiff, Nat.zero_le, false_implies, true_implies, not_true_eq_false, not_false_eq_true, implies_true, Nat.reduceSub, Nat.reduceMul, Nat.reduceDiv, reduceCtorEq, tn_clamp, nI_t, tn_nI, nI_add, pk_mul, rS_gS, rS_gA, rS_gL, rA_gS, rA_gA, rA_gL, rL_gS, rL_gA, rL_gL, and_self, and_false, false_and, if_true, if_false, true_or, or_true, or_false, false_or, sm_in, eqI, sI_s, Int32.toInt_zero, Int.natCast_zero, Int.natCast_one, Int.cast_ofNat_Int, Int.reduceEq, Int.reduceLT, Int.reduceLE, Int.reduceNeg, Int.reduceNe, ne_eq, n_up, g_up, e_cat, fr_A, fr_O, fr_P, fr_L, sp_X10_isFitIn, ht0, hb]
        clear hn hf ha hS hR
        repeat' (first | (refine And.intro ?_ ?_) | (intro _))
        all_goals (first | with_reducible assumption | omega | (exfalso; omega))
      · have e0 := e0 (fun a => hb ((hB t (by omega)).mpr a))
        have hb : B t = nI 0 := by
          rcases hB2 t (by omega) with e | e
          · exact e
          · exact absurd e hb
        clear e1
        apply hR 60
        simp (maxSteps := 10000000) (disch := omega) only [hS, hn, sm_eqs, hf, ha, sm_b0, Int.reduceToNat, ↓reduceIte, Nat.reduceEqDiff, true_and, and_true, List.length_nil, List.length_cons, Nat.reduceAdd, Nat.reduceLeDiff, Nat.zero_le, false_implies, true_implies, not_true_eq_false, not_false_eq_true, implies_true, Nat.reduceSub, Nat.reduceMul, Nat.reduceDiv, reduceCtorEq, tn_clamp, nI_t, tn_nI, nI_add, pk_mul, rS_gS, rS_gA, rS_gL, rA_gS, rA_gA, rA_gL, rL_gS, rL_gA, rL_gL, and_self, and_false, false_and, if_true, if_false, true_or, or_true, or_false, false_or, sm_in, eqI, sI_s, Int32.toInt_zero, Int.natCast_zero, Int.natCast_one, Int.cast_ofNat_Int, Int.reduceEq, Int.reduceLT, Int.reduceLE, Int.reduceNeg, Int.reduceNe, ne_eq, n_up, g_up, e_cat, fr_A, fr_O, fr_P, fr_L, sp_X10_isFitIn, ht0, hb]
        clear hn hf ha hS hR
        repeat' (first | (refine And.intro ?_ ?_) | (intro _))
        all_goals (first | with_reducible assumption | omega | (exfalso; omega))
  have lR : ∀ A B, (∀ k, k < 60 → (A k = nI 1 ↔ mbr c r k)) → (∀ k, k < 60 → A k = nI 0 ∨ A k = nI 1) → (∀ t, t < 60 → (B t = nI 1 ↔ thg c r t)) → (∀ t, t < 60 → B t = nI 0 ∨ B t = nI 1) → ∀ d k, d = nR c - k → k ≤ nR c → ∀ M n, hol M (lst (fun i => dc (mbr c r i)) k) → n = (lst (fun i => dc (mbr c r i)) k).length → ∀ (m2 : Int32) v4,
      J 163 [some (.ref 53), some (.int (nI r)), some (.int m2), some (.int (nI k)), v4] [] (gS (gS (gA (gA (gA g 72 A) 73 B) 74 M) 53 1027 (nI n)) 53 1028 (nI 0)) := by
    intro A B hA hA2 hB hB2 d
    induction d with
    | zero =>
      intro k hd hk M n hM hn9 m2 v4
      obtain rfl : k = nR c := by omega
      rw [← eM] at hM hn9
      have h0 := lT A B M hM hB hB2 _ 0 rfl (Nat.zero_le _) (rA (gA (gA (gA g 72 A) 73 B) 74 M) 75) 0 (fun k x h => by cases h) rfl m2 v4
      rw [gA_self, ← hn9] at h0
      clear hs lT
      apply hR 60
      simp (maxSteps := 10000000) (disch := omega) only [hS, hn, sm_eqs, hf, ha, sm_b0, Int.reduceToNat, ↓reduceIte, Nat.reduceEqDiff, true_and, and_true, List.length_nil, List.length_cons, Nat.reduceAdd, Nat.reduceLeDiff, Nat.zero_le, false_implies, true_implies, not_true_eq_false, not_false_eq_true, implies_true, Nat.reduceSub, Nat.reduceMul, Nat.reduceDiv, reduceCtorEq, tn_clamp, nI_t, tn_nI, nI_add, pk_mul, rS_gS, rS_gA, rS_gL, rA_gS, rA_gA, rA_gL, rL_gS, rL_gA, rL_gL, and_self, and_false, false_and, if_true, if_false, true_or, or_true, or_false, false_or, sm_in, eqI, sI_s, Int32.toInt_zero, Int.natCast_zero, Int.natCast_one, Int.cast_ofNat_Int, Int.reduceEq, Int.reduceLT, Int.reduceLE, Int.reduceNeg, Int.reduceNe, ne_eq, n_up, g_up, e_cat, fr_A, fr_O, fr_P, fr_L, sp_X10_isFitIn, hr0]
      repeat' (first | (refine And.intro ?_ ?_) | (intro _))
      all_goals (first | with_reducible assumption | omega | (exfalso; omega))
    | succ d ih =>
      intro k hd hk M n hM hn9 m2 v4
      have hle : n ≤ k := by rw [hn9, lst_len]; exact cnt_le _ _
      have e1 : mbr c r k → J 163 [some (.ref 53), some (.int (nI r)), some (.int m2), some (.int (nI (k + 1))), v4] [] (gS (gS (gA (gA (gA g 72 A) 73 B) 74 (upd M n (nI k))) 53 1027 (nI (n + 1))) 53 1028 (nI 0)) := fun a => ih (k + 1) (by omega) (by omega) _ _ (by
        have := hol_add hM k
        rw [← hn9] at this
        simp only [lst]; rw [if_pos (dc_t.mpr a)]; exact this) (by simp only [lst]; rw [if_pos (dc_t.mpr a), List.length_append, ← hn9]; rfl) _ _
      have e0 : ¬ mbr c r k → J 163 [some (.ref 53), some (.int (nI r)), some (.int m2), some (.int (nI (k + 1))), v4] [] (gS (gS (gA (gA (gA g 72 A) 73 B) 74 M) 53 1027 (nI n)) 53 1028 (nI 0)) := fun a => ih (k + 1) (by omega) (by omega) _ _ (by
        simp only [lst]; rw [if_neg (fun b => a (dc_t.mp b))]; exact hM) (by simp only [lst]; rw [if_neg (fun b => a (dc_t.mp b)), ← hn9]) _ _
      have hx2 : ∀ X a b d, gS (gS (gS X 53 1027 a) 53 1028 b) 53 1027 d = gS (gS X 53 1027 d) 53 1028 b := fun X a b d => by rw [fr_S.2.2.2.2.2.1 (gS X 53 1027 a) 53 1028 b 1027 d (by omega), g_up.1]
      clear ih hs lT
      by_cases hb : A k = nI 1
      · have e1 := e1 ((hA k (by omega)).mp hb)
        clear e0
        apply hR 60
        simp (maxSteps := 10000000) (disch := omega) only [hS, hn, sm_eqs, hf, ha, sm_b0, Int.reduceToNat, ↓reduceIte, Nat.reduceEqDiff, true_and, and_true, List.length_nil, List.length_cons, Nat.reduceAdd, Nat.reduceLeDiff, Nat.zero_le, false_implies, true_implies, not_true_eq_false, not_false_eq_true, implies_true, Nat.reduceSub, Nat.reduceMul, Nat.reduceDiv, reduceCtorEq, tn_clamp, nI_t, tn_nI, nI_add, pk_mul, rS_gS, rS_gA, rS_gL, rA_gS, rA_gA, rA_gL, rL_gS, rL_gA, rL_gL, and_self, and_false, false_and, if_true, if_false, true_or, or_true, or_false, false_or, sm_in, eqI, sI_s, Int32.toInt_zero, Int.natCast_zero, Int.natCast_one, Int.cast_ofNat_Int, Int.reduceEq, Int.reduceLT, Int.reduceLE, Int.reduceNeg, Int.reduceNe, ne_eq, n_up, g_up, e_cat, fr_A, fr_O, fr_P, fr_L, sp_X10_isFitIn, hr0, hb]
        clear hn hf ha hS hR
        rw [hx2]
        repeat' (first | (refine And.intro ?_ ?_) | (intro _))
        all_goals (first | with_reducible assumption | omega | (exfalso; omega))
      · have e0 := e0 (fun a => hb ((hA k (by omega)).mpr a))
        have hb : A k = nI 0 := by
          rcases hA2 k (by omega) with e | e
          · exact e
          · exact absurd e hb
        clear e1
        apply hR 60
        simp (maxSteps := 10000000) (disch := omega) only [hS, hn, sm_eqs, hf, ha, sm_b0, Int.reduceToNat, ↓reduceIte, Nat.reduceEqDiff, true_and, and_true, List.length_nil, List.length_cons, Nat.reduceAdd, Nat.reduceLeDiff, Nat.zero_le, false_implies, true_implies, not_true_eq_false, not_false_eq_true, implies_true, Nat.reduceSub, Nat.reduceMul, Nat.reduceDiv, reduceCtorEq, tn_clamp, nI_t, tn_nI, nI_add, pk_mul, rS_gS, rS_gA, rS_gL, rA_gS, rA_gA, rA_gL, rL_gS, rL_gA, rL_gL, and_self, and_false, false_and, if_true, if_false, true_or, or_true, or_false, false_or, sm_in, eqI, sI_s, Int32.toInt_zero, Int.natCast_zero, Int.natCast_one, Int.cast_ofNat_Int, Int.reduceEq, Int.reduceLT, Int.reduceLE, Int.reduceNeg, Int.reduceNe, ne_eq, n_up, g_up, e_cat, fr_A, fr_O, fr_P, fr_L, sp_X10_isFitIn, hr0, hb]
        clear hn hf ha hS hR
        repeat' (first | (refine And.intro ?_ ?_) | (intro _))
        all_goals (first | with_reducible assumption | omega | (exfalso; omega))
  have fin : ∀ A B, mkI c r A B → (∀ k t, k < nR c → t < nT c → pok c A B k t) → ∀ v3 v4, J 53 [some (.ref 53), some (.int (nI r)), some (.int (nI 0)), v3, v4] [] (gA (gA g 72 A) 73 B) := by
    intro A B hI hp v3 v4
    obtain ⟨q1, q2⟩ := mk_fin hr2 hn2.2.2.1 hI hp
    have h0 := lR A B q1 hI.1 q2 hI.2.1 _ 0 rfl (Nat.zero_le _) (rA (gA (gA g 72 A) 73 B) 74) 0 (fun k x h => by cases h) rfl (nI 0) v4
    rw [gA_self] at h0
    clear hs lT lR
    apply hR 60
    simp (maxSteps := 10000000) (disch := omega) only [hS, hn, sm_eqs, hf, ha, sm_b0, Int.reduceToNat, ↓reduceIte, Nat.reduceEqDiff, true_and, and_true, List.length_nil, List.length_cons, Nat.reduceAdd, Nat.reduceLeDiff, Nat.zero_le, false_implies, true_implies, not_true_eq_false, not_false_eq_true, implies_true, Nat.reduceSub, Nat.reduceMul, Nat.reduceDiv, reduceCtorEq, tn_clamp, nI_t, tn_nI, nI_add, pk_mul, rS_gS, rS_gA, rS_gL, rA_gS, rA_gA, rA_gL, rL_gS, rL_gA, rL_gL, and_self, and_false, false_and, if_true, if_false, true_or, or_true, or_false, false_or, sm_in, eqI, sI_s, Int32.toInt_zero, Int.natCast_zero, Int.natCast_one, Int.cast_ofNat_Int, Int.reduceEq, Int.reduceLT, Int.reduceLE, Int.reduceNeg, Int.reduceNe, ne_eq, n_up, g_up, e_cat, fr_A, fr_O, fr_P, fr_L, sp_X10_isFitIn]
    repeat' (first | (refine And.intro ?_ ?_) | (intro _))
    all_goals (first | with_reducible assumption | omega | (exfalso; omega))
  clear lT lR hs
  have main : ∀ N A B m, mkI c r A B → (m = nI 1 ∧ 121 ≤ mkN A B + N ∨ m = nI 0 ∧ ∀ k t, k < nR c → t < nT c → pok c A B k t) → ∀ v3 v4, J 53 [some (.ref 53), some (.int (nI r)), some (.int m), v3, v4] [] (gA (gA g 72 A) 73 B) := by
    intro N
    induction N with
    | zero =>
      intro A B m hI hm v3 v4
      rcases hm with ⟨rfl, hm⟩ | ⟨rfl, hm⟩
      · have := mkN_le A B; omega
      · exact fin A B hI hm v3 v4
    | succ N ih =>
      intro A B m hI hm v3 v4
      rcases hm with ⟨rfl, hm⟩ | ⟨rfl, hm⟩
      · have l1 : ∀ d k, d = nR c - k → k ≤ nR c → ∀ A B m, mkI c r A B → (m = nI 1 ∧ 121 ≤ mkN A B + N ∨ m = nI 0 ∧ 121 ≤ mkN A B + N + 1 ∧ ∀ i t, i < k → t < nT c → pok c A B i t) → ∀ v4, J 61 [some (.ref 53), some (.int (nI r)), some (.int m), some (.int (nI k)), v4] [] (gA (gA g 72 A) 73 B) := by
          intro d
          induction d with
          | zero =>
            intro k hd hk A B m hI hm v4
            obtain rfl : k = nR c := by omega
            have ih := ih A B m hI (by
              rcases hm with hm | ⟨a, _, b⟩
              · exact Or.inl hm
              · exact Or.inr ⟨a, b⟩) (some (.int (nI (nR c)))) v4
            clear fin
            apply hR 60
            simp (maxSteps := 10000000) (disch := omega) only [hS, hn, sm_eqs, hf, ha, sm_b0, Int.reduceToNat, ↓reduceIte, Nat.reduceEqDiff, true_and, and_true, List.length_nil, List.length_cons, Nat.reduceAdd, Nat.reduceLeDiff, Nat.zero_le, false_implies, true_implies, not_true_eq_false, not_false_eq_true, implies_true, Nat.reduceSub, Nat.reduceMul, Nat.reduceDiv, reduceCtorEq, tn_clamp, nI_t, tn_nI, nI_add, pk_mul, rS_gS, rS_gA, rS_gL, rA_gS, rA_gA, rA_gL, rL_gS, rL_gA, rL_gL, and_self, and_false, false_and, if_true, if_false, true_or, or_true, or_false, false_or, sm_in, eqI, sI_s, Int32.toInt_zero, Int.natCast_zero, Int.natCast_one, Int.cast_ofNat_Int, Int.reduceEq, Int.reduceLT, Int.reduceLE, Int.reduceNeg, Int.reduceNe, ne_eq, n_up, g_up, e_cat, fr_A, fr_O, fr_P, fr_L, sp_X10_isFitIn, hr0]
            repeat' (first | (refine And.intro ?_ ?_) | (intro _))
            all_goals (first | with_reducible assumption | omega | (exfalso; omega))
          | succ d ih2 =>
            intro k hd hk A B m hI hm v4
            have l2 : ∀ d t, d = nT c - t → t ≤ nT c → ∀ A B m, mkI c r A B → (m = nI 1 ∧ 121 ≤ mkN A B + N ∨ m = nI 0 ∧ 121 ≤ mkN A B + N + 1 ∧ ∀ i u, (i < k ∧ u < nT c ∨ i = k ∧ u < t) → pok c A B i u) → J 72 [some (.ref 53), some (.int (nI r)), some (.int m), some (.int (nI k)), some (.int (nI t))] [] (gA (gA g 72 A) 73 B) := by
              intro d
              induction d with
              | zero =>
                intro t hd2 ht A B m hI hm
                obtain rfl : t = nT c := by omega
                have ih2 := ih2 (k + 1) (by omega) (by omega) A B m hI (by
                  rcases hm with hm | ⟨a, b, e⟩
                  · exact Or.inl hm
                  · exact Or.inr ⟨a, b, fun i t hi ht => e i t (by omega)⟩) (some (.int (nI (nT c))))
                clear ih fin
                apply hR 60
                simp (maxSteps := 10000000) (disch := omega) only [hS, hn, sm_eqs, hf, ha, sm_b0, Int.reduceToNat, ↓reduceIte, Nat.reduceEqDiff, true_and, and_true, List.length_nil, List.length_cons, Nat.reduceAdd, Nat.reduceLeDiff, Nat.zero_le, false_implies, true_implies, not_true_eq_false, not_false_eq_true, implies_true, Nat.reduceSub, Nat.reduceMul, Nat.reduceDiv, reduceCtorEq, tn_clamp, nI_t, tn_nI, nI_add, pk_mul, rS_gS, rS_gA, rS_gL, rA_gS, rA_gA, rA_gL, rL_gS, rL_gA, rL_gL, and_self, and_false, false_and, if_true, if_false, true_or, or_true, or_false, false_or, sm_in, eqI, sI_s, Int32.toInt_zero, Int.natCast_zero, Int.natCast_one, Int.cast_ofNat_Int, Int.reduceEq, Int.reduceLT, Int.reduceLE, Int.reduceNeg, Int.reduceNe, ne_eq, n_up, g_up, e_cat, fr_A, fr_O, fr_P, fr_L, sp_X10_isFitIn, ht0]
                repeat' (first | (refine And.intro ?_ ?_) | (intro _))
                all_goals (first | with_reducible assumption | omega | (exfalso; omega))
              | succ d ih3 =>
                intro t hd2 ht A B m hI hm
                have hcp : CP c (gA (gA g 72 A) 73 B) := by simp only [cp_fr]; exact h
                have hko : okT c (nI t) := by unfold okT; rw [nI_t (by omega)]; omega
                have hck := hcl k (by omega)
                have eS : pok c A B k t → J 72 [some (.ref 53), some (.int (nI r)), some (.int m), some (.int (nI k)), some (.int (nI (t + 1)))] [] (gA (gA g 72 A) 73 B) := fun a => ih3 (t + 1) (by omega) (by omega) A B m hI (by
                  rcases hm with hm | ⟨a1, a2, a3⟩
                  · exact Or.inl hm
                  · refine Or.inr ⟨a1, a2, fun i u hiu => ?_⟩
                    by_cases e : i = k ∧ u = t
                    · rw [e.1, e.2]; exact a
                    · exact a3 i u (by omega))
                have eN : (rA c 14 k).toInt = 1 → ftC c k t → A k ≠ B t → J 72 [some (.ref 53), some (.int (nI r)), some (.int (nI 1)), some (.int (nI k)), some (.int (nI (t + 1)))] [] (gA (gA g 72 (upd A k (nI 1))) 73 (upd B t (nI 1))) := fun a1 a2 a3 => by
                  obtain ⟨b1, b2⟩ := mk_step hr2 hn2.2.1 hn2.2.2.1 hI (by omega) (by omega) a1 a2 a3
                  exact ih3 (t + 1) (by omega) (by omega) _ _ _ b1 (Or.inl ⟨rfl, by rcases hm with ⟨_, hm⟩ | ⟨_, hm, _⟩ <;> omega⟩)
                have hx : ∀ a b, gA (gA (gA (gA g 72 A) 73 B) 72 a) 73 b = gA (gA g 72 a) 73 b := fun a b => by rw [gA_comm (gA g 72 A) B a (by decide), g_up.2.1, g_up.2.1]
                clear ih ih2 ih3 fin hm
                by_cases c1 : (rA c 14 k).toInt = 1
                · by_cases c2 : A k = B t
                  · have eS := eS (fun _ _ => c2)
                    clear eN
                    have hck : (rA g 70 k).toInt = 0 := by rw [hck]; exact c1
                    apply hR 60
                    simp (maxSteps := 10000000) (disch := omega) only [hS, hn, sm_eqs, hf, ha, sm_b0, Int.reduceToNat, ↓reduceIte, Nat.reduceEqDiff, true_and, and_true, List.length_nil, List.length_cons, Nat.reduceAdd, Nat.reduceLeDiff, Nat.zero_le, false_implies, true_implies, not_true_eq_false, not_false_eq_true, implies_true, Nat.reduceSub, Nat.reduceMul, Nat.reduceDiv, reduceCtorEq, tn_clamp, nI_t, tn_nI, nI_add, pk_mul, rS_gS, rS_gA, rS_gL, rA_gS, rA_gA, rA_gL, rL_gS, rL_gA, rL_gL, and_self, and_false, false_and, if_true, if_false, true_or, or_true, or_false, false_or, sm_in, eqI, sI_s, Int32.toInt_zero, Int.natCast_zero, Int.natCast_one, Int.cast_ofNat_Int, Int.reduceEq, Int.reduceLT, Int.reduceLE, Int.reduceNeg, Int.reduceNe, ne_eq, n_up, g_up, e_cat, fr_A, fr_O, fr_P, fr_L, sp_X10_isFitIn, ht0, hck, c2]
                    clear hn hf ha hS hR
                    repeat' (first | (refine And.intro ?_ ?_) | (intro _))
                    all_goals (first | with_reducible assumption | omega | (exfalso; omega))
                  · have eS : ¬ ftC c k t → _ := fun a => eS (fun _ b => absurd b a)
                    have eN := fun a => eN c1 a c2
                    have hck : (rA g 70 k).toInt = 0 := by rw [hck]; exact c1
                    have c2 : ¬ (A k).toInt = (B t).toInt := fun a => c2 (Int32.toInt_inj.mp a)
                    apply hR 60
                    simp (maxSteps := 10000000) (disch := omega) only [hS, hn, sm_eqs, hf, ha, sm_b0, Int.reduceToNat, ↓reduceIte, Nat.reduceEqDiff, true_and, and_true, List.length_nil, List.length_cons, Nat.reduceAdd, Nat.reduceLeDiff, Nat.zero_le, false_implies, true_implies, not_true_eq_false, not_false_eq_true, implies_true, Nat.reduceSub, Nat.reduceMul, Nat.reduceDiv, reduceCtorEq, tn_clamp, nI_t, tn_nI, nI_add, pk_mul, rS_gS, rS_gA, rS_gL, rA_gS, rA_gA, rA_gL, rL_gS, rL_gA, rL_gL, and_self, and_false, false_and, if_true, if_false, true_or, or_true, or_false, false_or, sm_in, eqI, sI_s, Int32.toInt_zero, Int.natCast_zero, Int.natCast_one, Int.cast_ofNat_Int, Int.reduceEq, Int.reduceLT, Int.reduceLE, Int.reduceNeg, Int.reduceNe, ne_eq, n_up, g_up, e_cat, fr_A, fr_O, fr_P, fr_L, sp_X10_isFitIn, ht0, hck, c2, hcp, hko, hx]
                    clear hn hf ha hS hR
                    repeat' (first | (refine And.intro ?_ ?_) | (intro _))
                    all_goals (first | with_reducible assumption | omega | (exfalso; omega) | exact eS (by assumption) | exact eN (by assumption))
                · have eS := eS (fun a => absurd a c1)
                  clear eN
                  have hck : ¬ (rA g 70 k).toInt = 0 := by rw [hck]; exact c1
                  apply hR 60
                  simp (maxSteps := 10000000) (disch := omega) only [hS, hn, sm_eqs, hf, ha, sm_b0, Int.reduceToNat, ↓reduceIte, Nat.reduceEqDiff, true_and, and_true, List.length_nil, List.length_cons, Nat.reduceAdd, Nat.reduceLeDiff, Nat.zero_le, false_implies, true_implies, not_true_eq_false, not_false_eq_true, implies_true, Nat.reduceSub, Nat.reduceMul, Nat.reduceDiv, reduceCtorEq, tn_clamp, nI_t, tn_nI, nI_add, pk_mul, rS_gS, rS_gA, rS_gL, rA_gS, rA_gA, rA_gL, rL_gS, rL_gA, rL_gL, and_self, and_false, false_and, if_true, if_false, true_or, or_true, or_false, false_or, sm_in, eqI, sI_s, Int32.toInt_zero, Int.natCast_zero, Int.natCast_one, Int.cast_ofNat_Int, Int.reduceEq, Int.reduceLT, Int.reduceLE, Int.reduceNeg, Int.reduceNe, ne_eq, n_up, g_up, e_cat, fr_A, fr_O, fr_P, fr_L, sp_X10_isFitIn, ht0, hck]
                  clear hn hf ha hS hR
                  repeat' (first | (refine And.intro ?_ ?_) | (intro _))
                  all_goals (first | with_reducible assumption | omega | (exfalso; omega))
            have h0 := l2 _ 0 rfl (Nat.zero_le _) A B m hI (by
              rcases hm with hm | ⟨a, b, e⟩
              · exact Or.inl hm
              · exact Or.inr ⟨a, b, fun i u hi => e i u (by omega) (by omega)⟩)
            clear l2 ih ih2 fin
            apply hR 60
            simp (maxSteps := 10000000) (disch := omega) only [hS, hn, sm_eqs, hf, ha, sm_b0, Int.reduceToNat, ↓reduceIte, Nat.reduceEqDiff, true_and, and_true, List.length_nil, List.length_cons, Nat.reduceAdd, Nat.reduceLeDiff, Nat.zero_le, false_implies, true_implies, not_true_eq_false, not_false_eq_true, implies_true, Nat.reduceSub, Nat.reduceMul, Nat.reduceDiv, reduceCtorEq, tn_clamp, nI_t, tn_nI, nI_add, pk_mul, rS_gS, rS_gA, rS_gL, rA_gS, rA_gA, rA_gL, rL_gS, rL_gA, rL_gL, and_self, and_false, false_and, if_true, if_false, true_or, or_true, or_false, false_or, sm_in, eqI, sI_s, Int32.toInt_zero, Int.natCast_zero, Int.natCast_one, Int.cast_ofNat_Int, Int.reduceEq, Int.reduceLT, Int.reduceLE, Int.reduceNeg, Int.reduceNe, ne_eq, n_up, g_up, e_cat, fr_A, fr_O, fr_P, fr_L, sp_X10_isFitIn, hr0]
            repeat' (first | (refine And.intro ?_ ?_) | (intro _))
            all_goals (first | with_reducible assumption | omega | (exfalso; omega))
        have h0 := l1 _ 0 rfl (Nat.zero_le _) A B (nI 0) hI (Or.inr ⟨rfl, by omega, fun i t hi => by omega⟩) v4
        clear l1 ih fin
        apply hR 60
        simp (maxSteps := 10000000) (disch := omega) only [hS, hn, sm_eqs, hf, ha, sm_b0, Int.reduceToNat, ↓reduceIte, Nat.reduceEqDiff, true_and, and_true, List.length_nil, List.length_cons, Nat.reduceAdd, Nat.reduceLeDiff, Nat.zero_le, false_implies, true_implies, not_true_eq_false, not_false_eq_true, implies_true, Nat.reduceSub, Nat.reduceMul, Nat.reduceDiv, reduceCtorEq, tn_clamp, nI_t, tn_nI, nI_add, pk_mul, rS_gS, rS_gA, rS_gL, rA_gS, rA_gA, rA_gL, rL_gS, rL_gA, rL_gL, and_self, and_false, false_and, if_true, if_false, true_or, or_true, or_false, false_or, sm_in, eqI, sI_s, Int32.toInt_zero, Int.natCast_zero, Int.natCast_one, Int.cast_ofNat_Int, Int.reduceEq, Int.reduceLT, Int.reduceLE, Int.reduceNeg, Int.reduceNe, ne_eq, n_up, g_up, e_cat, fr_A, fr_O, fr_P, fr_L, sp_X10_isFitIn]
        repeat' (first | (refine And.intro ?_ ?_) | (intro _))
        all_goals (first | with_reducible assumption | omega | (exfalso; omega))
      · exact fin A B hI hm v3 v4
  have lB : ∀ A, (∀ k, k < 60 → A k = if k = r then nI 1 else nI 0) → ∀ d t, d = 60 - t → t ≤ 60 → ∀ B, (∀ u, u < t → B u = nI 0) → ∀ v3 v4, J 32 [some (.ref 53), some (.int (nI r)), some (.int (nI t)), v3, v4] [] (gA (gA g 72 A) 73 B) := by
    intro A hA d
    induction d with
    | zero =>
      intro t hd ht B hB v3 v4
      obtain rfl : t = 60 := by omega
      have hI : mkI c r A B := ⟨fun k hk => by rw [hA k hk]; split; exact Or.inr rfl; exact Or.inl rfl, fun t ht => Or.inl (hB t ht), by rw [hA r (by omega), if_pos rfl], fun k hk e => by
        rw [hA k hk] at e
        by_cases e2 : k = r
        · rw [e2]; exact fun P hP _ => hP
        · rw [if_neg e2] at e; exact absurd e (by decide), fun t ht e => by rw [hB t ht] at e; exact absurd e (by decide)⟩
      have h0 := main 121 A B (nI 1) hI (Or.inl ⟨rfl, by omega⟩) v3 v4
      clear main fin
      apply hR 60
      simp (maxSteps := 10000000) (disch := omega) only [hS, hn, sm_eqs, hf, ha, sm_b0, Int.reduceToNat, ↓reduceIte, Nat.reduceEqDiff, true_and, and_true, List.length_nil, List.length_cons, Nat.reduceAdd, Nat.reduceLeDiff, Nat.zero_le, false_implies, true_implies, not_true_eq_false, not_false_eq_true, implies_true, Nat.reduceSub, Nat.reduceMul, Nat.reduceDiv, reduceCtorEq, tn_clamp, nI_t, tn_nI, nI_add, pk_mul, rS_gS, rS_gA, rS_gL, rA_gS, rA_gA, rA_gL, rL_gS, rL_gA, rL_gL, and_self, and_false, false_and, if_true, if_false, true_or, or_true, or_false, false_or, sm_in, eqI, sI_s, Int32.toInt_zero, Int.natCast_zero, Int.natCast_one, Int.cast_ofNat_Int, Int.reduceEq, Int.reduceLT, Int.reduceLE, Int.reduceNeg, Int.reduceNe, ne_eq, n_up, g_up, e_cat, fr_A, fr_O, fr_P, fr_L, sp_X10_isFitIn]
      repeat' (first | (refine And.intro ?_ ?_) | (intro _))
      all_goals (first | with_reducible assumption | omega | (exfalso; omega))
    | succ d ih =>
      intro t hd ht B hB v3 v4
      have ih := ih (t + 1) (by omega) (by omega) (upd B t (nI 0)) (fun u hu => by
        by_cases e : u = t
        · rw [e, pk_us]
        · rw [pk_un e]; exact hB u (by omega)) v3 v4
      clear main fin
      apply hR 60
      simp (maxSteps := 10000000) (disch := omega) only [hS, hn, sm_eqs, hf, ha, sm_b0, Int.reduceToNat, ↓reduceIte, Nat.reduceEqDiff, true_and, and_true, List.length_nil, List.length_cons, Nat.reduceAdd, Nat.reduceLeDiff, Nat.zero_le, false_implies, true_implies, not_true_eq_false, not_false_eq_true, implies_true, Nat.reduceSub, Nat.reduceMul, Nat.reduceDiv, reduceCtorEq, tn_clamp, nI_t, tn_nI, nI_add, pk_mul, rS_gS, rS_gA, rS_gL, rA_gS, rA_gA, rA_gL, rL_gS, rL_gA, rL_gL, and_self, and_false, false_and, if_true, if_false, true_or, or_true, or_false, false_or, sm_in, eqI, sI_s, Int32.toInt_zero, Int.natCast_zero, Int.natCast_one, Int.cast_ofNat_Int, Int.reduceEq, Int.reduceLT, Int.reduceLE, Int.reduceNeg, Int.reduceNe, ne_eq, n_up, g_up, e_cat, fr_A, fr_O, fr_P, fr_L, sp_X10_isFitIn]
      clear hn hf ha hS hR
      repeat' (first | (refine And.intro ?_ ?_) | (intro _))
      all_goals (first | with_reducible assumption | omega | (exfalso; omega))
  have lA : ∀ d k, d = 60 - k → k ≤ 60 → ∀ A, (∀ u, u < k → A u = if u = r then nI 1 else nI 0) → ∀ v3 v4, J 2 [some (.ref 53), some (.int (nI r)), some (.int (nI k)), v3, v4] [] (gA g 72 A) := by
    intro d
    induction d with
    | zero =>
      intro k hd hk A hA v3 v4
      obtain rfl : k = 60 := by omega
      have h0 := lB A hA _ 0 rfl (Nat.zero_le _) (rA (gA g 72 A) 73) (fun u hu => by omega) v3 v4
      rw [gA_self] at h0
      clear lB main fin
      apply hR 60
      simp (maxSteps := 10000000) (disch := omega) only [hS, hn, sm_eqs, hf, ha, sm_b0, Int.reduceToNat, ↓reduceIte, Nat.reduceEqDiff, true_and, and_true, List.length_nil, List.length_cons, Nat.reduceAdd, Nat.reduceLeDiff, Nat.zero_le, false_implies, true_implies, not_true_eq_false, not_false_eq_true, implies_true, Nat.reduceSub, Nat.reduceMul, Nat.reduceDiv, reduceCtorEq, tn_clamp, nI_t, tn_nI, nI_add, pk_mul, rS_gS, rS_gA, rS_gL, rA_gS, rA_gA, rA_gL, rL_gS, rL_gA, rL_gL, and_self, and_false, false_and, if_true, if_false, true_or, or_true, or_false, false_or, sm_in, eqI, sI_s, Int32.toInt_zero, Int.natCast_zero, Int.natCast_one, Int.cast_ofNat_Int, Int.reduceEq, Int.reduceLT, Int.reduceLE, Int.reduceNeg, Int.reduceNe, ne_eq, n_up, g_up, e_cat, fr_A, fr_O, fr_P, fr_L, sp_X10_isFitIn]
      repeat' (first | (refine And.intro ?_ ?_) | (intro _))
      all_goals (first | with_reducible assumption | omega | (exfalso; omega))
    | succ d ih =>
      intro k hd hk A hA v3 v4
      have ih := ih (k + 1) (by omega) (by omega) (upd A k (if k = r then nI 1 else nI 0)) (fun u hu => by
        by_cases e : u = k
        · rw [e, pk_us]
        · rw [pk_un e]; exact hA u (by omega)) v3 v4
      clear lB main fin
      by_cases e : k = r
      · rw [if_pos e] at ih
        subst e
        apply hR 60
        simp (maxSteps := 10000000) (disch := omega) only [hS, hn, sm_eqs, hf, ha, sm_b0, Int.reduceToNat, ↓reduceIte, Nat.reduceEqDiff, true_and, and_true, List.length_nil, List.length_cons, Nat.reduceAdd, Nat.reduceLeDiff, Nat.zero_le, false_implies, true_implies, not_true_eq_false, not_false_eq_true, implies_true, Nat.reduceSub, Nat.reduceMul, Nat.reduceDiv, reduceCtorEq, tn_clamp, nI_t, tn_nI, nI_add, pk_mul, rS_gS, rS_gA, rS_gL, rA_gS, rA_gA, rA_gL, rL_gS, rL_gA, rL_gL, and_self, and_false, false_and, if_true, if_false, true_or, or_true, or_false, false_or, sm_in, eqI, sI_s, Int32.toInt_zero, Int.natCast_zero, Int.natCast_one, Int.cast_ofNat_Int, Int.reduceEq, Int.reduceLT, Int.reduceLE, Int.reduceNeg, Int.reduceNe, ne_eq, n_up, g_up, e_cat, fr_A, fr_O, fr_P, fr_L, sp_X10_isFitIn]
        clear hn hf ha hS hR
        repeat' (first | (refine And.intro ?_ ?_) | (intro _))
        all_goals (first | with_reducible assumption | omega | (exfalso; omega))
      · rw [if_neg e] at ih
        apply hR 60
        simp (maxSteps := 10000000) (disch := omega) only [hS, hn, sm_eqs, hf, ha, sm_b0, Int.reduceToNat, ↓reduceIte, Nat.reduceEqDiff, true_and, and_true, List.length_nil, List.length_cons, Nat.reduceAdd, Nat.reduceLeDiff, Nat.zero_le, false_implies, true_implies, not_true_eq_false, not_false_eq_true, implies_true, Nat.reduceSub, Nat.reduceMul, Nat.reduceDiv, reduceCtorEq, tn_clamp, nI_t, tn_nI, nI_add, pk_mul, rS_gS, rS_gA, rS_gL, rA_gS, rA_gA, rA_gL, rL_gS, rL_gA, rL_gL, and_self, and_false, false_and, if_true, if_false, true_or, or_true, or_false, false_or, sm_in, eqI, sI_s, Int32.toInt_zero, Int.natCast_zero, Int.natCast_one, Int.cast_ofNat_Int, Int.reduceEq, Int.reduceLT, Int.reduceLE, Int.reduceNeg, Int.reduceNe, ne_eq, n_up, g_up, e_cat, fr_A, fr_O, fr_P, fr_L, sp_X10_isFitIn, e]
        clear hn hf ha hS hR
        repeat' (first | (refine And.intro ?_ ?_) | (intro _))
        all_goals (first | with_reducible assumption | omega | (exfalso; omega))
  have h0 := lA _ 0 rfl (Nat.zero_le _) (rA g 72) (fun u hu => by omega) none none
  rw [gA_self] at h0
  clear lA lB main fin
  apply hR 40
  simp (maxSteps := 10000000) (disch := omega) only [hS, hn, sm_eqs, hf, ha, sm_b0, Int.reduceToNat, ↓reduceIte, Nat.reduceEqDiff, true_and, and_true, List.length_nil, List.length_cons, Nat.reduceAdd, Nat.reduceLeDiff, Nat.zero_le, false_implies, true_implies, not_true_eq_false, not_false_eq_true, implies_true, Nat.reduceSub, Nat.reduceMul, Nat.reduceDiv, reduceCtorEq, tn_clamp, nI_t, tn_nI, nI_add, pk_mul, rS_gS, rS_gA, rS_gL, rA_gS, rA_gA, rA_gL, rL_gS, rL_gA, rL_gL, and_self, and_false, false_and, if_true, if_false, true_or, or_true, or_false, false_or, sm_in, eqI, sI_s, Int32.toInt_zero, Int.natCast_zero, Int.natCast_one, Int.cast_ofNat_Int, Int.reduceEq, Int.reduceLT, Int.reduceLE, Int.reduceNeg, Int.reduceNe, ne_eq, n_up, g_up, e_cat, fr_A, fr_O, fr_P, fr_L, sp_X10_isFitIn]
  exact h0
theorem ok_X10_findGroup (l : Launch) (c : sm_G) : sm_spok l lay sm_mt 5 190 (sp_X10_findGroup c) := Or.inr (Or.inr (Or.inr ⟨by decide, by decide, by
  rw [mt_190]
  exact sm_method (T := TX10_) v_cok v_lok v_ka v_tok_X10 mok_X10_findGroup rfl (by unfold sm_rk; simp) (wf_X10_findGroup c) (List.forall_mem_cons.mpr ⟨sm_spok_up (Nat.le_of_ble_eq_true rfl : 4 ≤ 4) (ok_X10_isFitIn l c), fun _ h => absurd h List.not_mem_nil⟩) (b_X10_findGroup c)⟩))
