/-! Who hangs together. -/
theorem and0 (x y : Int64) : (x &&& y = lN 0) ↔ ∀ t, t < 64 → ¬ (bitL x t = true ∧ bitL y t = true) := by
  rw [← Int64.toBitVec_inj, Int64.toBitVec_and]
  constructor
  · intro h t ht hb
    have h2 := congrArg (fun z : BitVec 64 => z.getLsbD t) h
    simp only [BitVec.getLsbD_and] at h2
    rw [show (lN 0).toBitVec = 0#64 from rfl, show x.toBitVec.getLsbD t = true from hb.1, show y.toBitVec.getLsbD t = true from hb.2] at h2
    simp at h2
  · intro h
    apply BitVec.eq_of_getLsbD_eq
    intro t ht
    rw [BitVec.getLsbD_and, show (lN 0).toBitVec = 0#64 from rfl]
    have := h t ht
    simp only [bitL] at this
    cases h1 : x.toBitVec.getLsbD t <;> cases h2 : y.toBitVec.getLsbD t <;> simp_all
theorem bit_lor (x y : Int64) (t : Nat) : bitL (x ||| y) t = (bitL x t || bitL y t) := by
  unfold bitL; rw [Int64.toBitVec_or, BitVec.getLsbD_or]
theorem bit_one {k j : Nat} (hk : k < 64) : bitL (lN 1 <<< ((nI k).toInt64 &&& 63)) j = decide (j = k) := by
  have := bit_or (x := lN 0) (k := k) (j := j) hk
  rw [bit_lor, bit_0] at this
  simpa using this
theorem bitL_ext {x y : Int64} (h : ∀ t, t < 64 → bitL x t = bitL y t) : x = y := by
  apply Int64.toBitVec_inj.mp
  exact BitVec.eq_of_getLsbD_eq h
/-- two reports with a thing in common -/
def tch (fs : Nat → Int64) (a b : Nat) : Prop := ∃ t, t < 64 ∧ bitL (fs a) t = true ∧ bitL (fs b) t = true
/-- i hangs together with r, among the first n -/
def con (fs : Nat → Int64) (n r i : Nat) : Prop := ∀ P : Nat → Prop, P r → (∀ a b, a < n → b < n → P a → tch fs a b → P b) → P i
/-- a set on the way: those in it hang together with r, and what they have together is known -/
def hIv (fs : Nat → Int64) (n r : Nat) (ins sh : Int64) : Prop := (∀ i, i < 64 → bitL ins i = true → i < n ∧ con fs n r i) ∧ bitL ins r = true ∧ ∀ t, t < 64 → (bitL sh t = true ↔ ∃ i, i < n ∧ bitL ins i = true ∧ bitL (fs i) t = true)
theorem cnt_mono {f h : Nat → Bool} : ∀ n, (∀ i, i < n → f i = true → h i = true) → cnt f n ≤ cnt h n := by
  intro n
  induction n with
  | zero => intro _; exact Nat.le_refl _
  | succ n ih =>
    intro e
    have := ih (fun i hi => e i (by omega))
    have e2 := e n (by omega)
    simp only [cnt]
    by_cases hf : f n = true
    · rw [if_pos hf, if_pos (e2 hf)]; omega
    · rw [if_neg hf]; split <;> omega
theorem cnt_lt {f h : Nat → Bool} : ∀ n, (∀ i, i < n → f i = true → h i = true) → (∃ i, i < n ∧ f i = false ∧ h i = true) → cnt f n < cnt h n := by
  intro n
  induction n with
  | zero => rintro _ ⟨i, hi, _⟩; omega
  | succ n ih =>
    rintro e ⟨i, hi, h1, h2⟩
    have m := cnt_mono n (fun i hi => e i (by omega))
    have e2 := e n (by omega)
    simp only [cnt]
    by_cases hin : i = n
    · subst hin
      rw [if_neg (by rw [h1]; decide), if_pos h2]; omega
    · have := ih (fun i hi => e i (by omega)) ⟨i, by omega, h1, h2⟩
      by_cases hf : f n = true
      · rw [if_pos hf, if_pos (e2 hf)]; omega
      · rw [if_neg hf]; split <;> omega
theorem cnt_bound {f : Nat → Bool} {k : Nat} : ∀ n, (∀ i, i < n → f i = true → i < k) → cnt f n ≤ k := by
  intro n
  induction n with
  | zero => intro _; exact Nat.zero_le _
  | succ n ih =>
    intro e
    have h1 := ih (fun i hi => e i (by omega))
    have h2 := cnt_le f n
    have e2 := e n (by omega)
    simp only [cnt]
    by_cases hf : f n = true
    · have := e2 hf; rw [if_pos hf]; omega
    · rw [if_neg hf]; omega
theorem hIv_add {fs : Nat → Int64} {n r o : Nat} {ins sh : Int64} (hn : n ≤ 60) (h : hIv fs n r ins sh) (ho : o < n) (hne : ¬ (fs o &&& sh = lN 0)) : hIv fs n r (ins ||| lN 1 <<< ((nI o).toInt64 &&& 63)) (sh ||| fs o) := by
  obtain ⟨h1, h2, h3⟩ := h
  have hx : ∃ t, t < 64 ∧ bitL (fs o) t = true ∧ bitL sh t = true := by
    rw [and0] at hne
    exact Classical.byContradiction (fun hc => hne (fun t ht hb => hc ⟨t, ht, hb.1, hb.2⟩))
  obtain ⟨t, ht, t1, t2⟩ := hx
  obtain ⟨i, hi, i1, i2⟩ := (h3 t ht).mp t2
  refine ⟨fun j hj hb => ?_, ?_, fun u hu => ?_⟩
  · rw [bit_or (by omega)] at hb
    by_cases e : j = o
    · subst e
      refine ⟨ho, fun P hP hc => hc i j hi ho ((h1 i (by omega) i1).2 P hP hc) ⟨t, ht, i2, t1⟩⟩
    · simp [e] at hb; exact h1 j hj hb
  · rw [bit_or (by omega), h2]; rfl
  · rw [bit_lor, Bool.or_eq_true, h3 u hu]
    constructor
    · rintro (⟨j, hj, j1, j2⟩ | hb)
      · exact ⟨j, hj, by rw [bit_or (by omega), j1]; rfl, j2⟩
      · exact ⟨o, ho, by rw [bit_or (by omega)]; simp, hb⟩
    · rintro ⟨j, hj, j1, j2⟩
      rw [bit_or (by omega)] at j1
      by_cases e : j = o
      · subst e; exact Or.inr j2
      · simp [e] at j1; exact Or.inl ⟨j, hj, j1, j2⟩
theorem hIv_end {fs : Nat → Int64} {n r : Nat} {ins sh : Int64} (hn : n ≤ 60) (h : hIv fs n r ins sh) (hc : ∀ j, j < n → bitL ins j = false → fs j &&& sh = lN 0) : ∀ i, i < 64 → (bitL ins i = true ↔ con fs n r i) := by
  obtain ⟨h1, h2, h3⟩ := h
  intro i hi
  refine ⟨fun hb => (h1 i hi hb).2, fun hcon => hcon (fun i => bitL ins i = true) h2 (fun a b ha hb hPa ht => ?_)⟩
  obtain ⟨t, ht, ta, tb⟩ := ht
  cases hx : bitL ins b with
  | true => rfl
  | false =>
    have h0 := hc b hb hx
    rw [and0] at h0
    exact absurd ⟨tb, (h3 t ht).mpr ⟨a, ha, hPa, ta⟩⟩ (h0 t ht)
def sp_X3_hangTogether : sm_SP := fun as g K => match as with
  | [.ref p, .int r] => p = 33 ∧ zR g ∧ okR g r ∧ (∀ ins : Int64, (∀ i, i < 64 → (bitL ins i = true ↔ con (rL g 43) (nR g) (tn r) i)) → K (some (.long ins)) g)
  | _ => False
theorem wf_X3_hangTogether : sm_wf lay (yX3_hangTogether, cX3_hangTogether, 9, (some .long)) 2 false sp_X3_hangTogether := by
  intro as g K h
  simp only [sp_X3_hangTogether] at h
  split at h
  · exact ⟨Nat.le_of_ble_eq_true rfl, by simp, rfl, fun _ => by obtain rfl := h.1; exact ⟨33, _, 3, [33, 14, 36, 45, 46, 47, 1, 1], TX3, 8, rfl, rfl, rfl⟩⟩
  · exact h.elim
set_option maxHeartbeats 4000000 in
set_option maxRecDepth 100000 in
theorem b_X3_hangTogether : sm_body lay NX3_hangTogether 9 2 (sm_cl [(132, sp_X9_isIn), (75, sp_X6_size)]) sp_X3_hangTogether := by
  intro K J S hW as g hs
  have hn := n_X3_hangTogether
  have hf := fd_all
  have ha := ar_all
  generalize NX3_hangTogether = N at hn hW
  generalize lay = L at hf ha hW
  obtain ⟨hS, hR⟩ := hW
  simp only [sp_X3_hangTogether] at hs
  split at hs
  case h_2 => exact hs.elim
  simp only [e_args, sm_pad, List.length_cons, List.length_nil, Nat.reduceAdd, Nat.reduceSub, List.replicate_succ, List.replicate_zero, List.cons_append, List.nil_append]
  rename_i p r
  obtain ⟨rfl, z, hr, hs⟩ := hs
  have z2 := z.2
  obtain ⟨r, hr2, rfl⟩ := ok_nI hr
  simp (disch := omega) only [tn_nI] at hs
  have outer : ∀ m ρ, m = 60 - ρ → ρ ≤ 60 → ∀ ins sh gr v8, hIv (rL g 43) (nR g) r ins sh → ((gr = nI 1 ∧ ρ + 1 ≤ cnt (bitL ins) 64) ∨ (gr = nI 0 ∧ ∀ j, j < nR g → bitL ins j = false → rL g 43 j &&& sh = lN 0)) → J 18 [some (.ref 33), some (.int (nI r)), some (.long ins), none, some (.long sh), none, some (.int gr), some (.int (nI ρ)), v8] [] g := by
    intro m
    induction m with
    | zero =>
      intro ρ hm hρ ins sh gr v8 hI hg
      have hb := cnt_bound 64 (fun i hi hb => (hI.1 i hi hb).1)
      rcases hg with ⟨_, h⟩ | ⟨rfl, hcl⟩
      · omega
      · have hs := hs ins (hIv_end z2 hI hcl)
        apply hR 60
        simp (maxSteps := 10000000) (disch := omega) only [hS, hn, sm_eqs, hf, ha, sm_b0, Int.reduceToNat, ↓reduceIte, Nat.reduceEqDiff, true_and, and_true, List.length_nil, List.length_cons, Nat.reduceAdd, Nat.reduceLeDiff, Nat.zero_le, false_implies, true_implies, not_true_eq_false, not_false_eq_true, implies_true, Nat.reduceSub, Nat.reduceMul, Nat.reduceDiv, reduceCtorEq, tn_clamp, nI_t, tn_nI, nI_add, pk_mul, rS_gS, rS_gA, rS_gL, rA_gS, rA_gA, rA_gL, rL_gS, rL_gA, rL_gL, and_self, and_false, false_and, if_true, if_false, true_or, or_true, or_false, false_or, sm_in, eqI, sI_s, Int32.toInt_zero, Int.natCast_zero, Int.natCast_one, Int.cast_ofNat_Int, Int.reduceEq, Int.reduceLT, Int.reduceLE, Int.reduceNeg, Int.reduceNe, ne_eq, n_up, g_up, e_cat, fr_A, fr_O, fr_P, fr_L, sp_X9_isIn, sp_X6_size]
        clear hn hf ha hS hR
        grind
    | succ m ih =>
      intro ρ hm hρ ins sh gr v8 hI hg
      rcases hg with ⟨rfl, hcd⟩ | ⟨rfl, hcl⟩
      · have inner : ∀ m2 o, m2 = nR g - o → o ≤ nR g → ∀ ins sh gr, hIv (rL g 43) (nR g) r ins sh → ρ + 1 ≤ cnt (bitL ins) 64 → ((gr = nI 1 ∧ ρ + 2 ≤ cnt (bitL ins) 64) ∨ (gr = nI 0 ∧ ∀ j, j < o → bitL ins j = false → rL g 43 j &&& sh = lN 0)) → J 36 [some (.ref 33), some (.int (nI r)), some (.long ins), none, some (.long sh), none, some (.int gr), some (.int (nI ρ)), some (.int (nI o))] [] g := by
          intro m2
          induction m2 with
          | zero =>
            intro o hm2 ho ins sh gr hI hcd hg
            obtain rfl : o = nR g := by omega
            have ih := ih (ρ + 1) (by omega) (by omega) ins sh gr (some (.int (nI (nR g)))) hI hg
            apply hR 60
            simp (maxSteps := 10000000) (disch := omega) only [hS, hn, sm_eqs, hf, ha, sm_b0, Int.reduceToNat, ↓reduceIte, Nat.reduceEqDiff, true_and, and_true, List.length_nil, List.length_cons, Nat.reduceAdd, Nat.reduceLeDiff, Nat.zero_le, false_implies, true_implies, not_true_eq_false, not_false_eq_true, implies_true, Nat.reduceSub, Nat.reduceMul, Nat.reduceDiv, reduceCtorEq, tn_clamp, nI_t, tn_nI, nI_add, pk_mul, rS_gS, rS_gA, rS_gL, rA_gS, rA_gA, rA_gL, rL_gS, rL_gA, rL_gL, and_self, and_false, false_and, if_true, if_false, true_or, or_true, or_false, false_or, sm_in, eqI, sI_s, Int32.toInt_zero, Int.natCast_zero, Int.natCast_one, Int.cast_ofNat_Int, Int.reduceEq, Int.reduceLT, Int.reduceLE, Int.reduceNeg, Int.reduceNe, ne_eq, n_up, g_up, e_cat, fr_A, fr_O, fr_P, fr_L, sp_X9_isIn, sp_X6_size, z]
            clear hn hf ha hS hR
            grind
          | succ m2 ih2 =>
            intro o hm2 ho ins sh gr hI hcd hg
            cases hb : bitL ins o with
            | true =>
              have ih2 := ih2 (o + 1) (by omega) (by omega) ins sh gr hI hcd (by
                rcases hg with h | ⟨h1, h2⟩
                · exact Or.inl h
                · refine Or.inr ⟨h1, fun j hj hf => ?_⟩
                  by_cases e : j = o
                  · subst e; rw [hb] at hf; cases hf
                  · exact h2 j (by omega) hf)
              clear ih hs
              apply hR 60
              simp (maxSteps := 10000000) (disch := omega) only [hS, hn, sm_eqs, hf, ha, sm_b0, Int.reduceToNat, ↓reduceIte, Nat.reduceEqDiff, true_and, and_true, List.length_nil, List.length_cons, Nat.reduceAdd, Nat.reduceLeDiff, Nat.zero_le, false_implies, true_implies, not_true_eq_false, not_false_eq_true, implies_true, Nat.reduceSub, Nat.reduceMul, Nat.reduceDiv, reduceCtorEq, tn_clamp, nI_t, tn_nI, nI_add, pk_mul, rS_gS, rS_gA, rS_gL, rA_gS, rA_gA, rA_gL, rL_gS, rL_gA, rL_gL, and_self, and_false, false_and, if_true, if_false, true_or, or_true, or_false, false_or, sm_in, eqI, sI_s, Int32.toInt_zero, Int.natCast_zero, Int.natCast_one, Int.cast_ofNat_Int, Int.reduceEq, Int.reduceLT, Int.reduceLE, Int.reduceNeg, Int.reduceNe, ne_eq, n_up, g_up, e_cat, fr_A, fr_O, fr_P, fr_L, sp_X9_isIn, sp_X6_size, z, hb, lgc_0]
              clear hn hf ha hS hR
              grind
            | false =>
              by_cases hne : rL g 43 o &&& sh = lN 0
              · have ih2 := ih2 (o + 1) (by omega) (by omega) ins sh gr hI hcd (by
                  rcases hg with h | ⟨h1, h2⟩
                  · exact Or.inl h
                  · refine Or.inr ⟨h1, fun j hj hf => ?_⟩
                    by_cases e : j = o
                    · subst e; exact hne
                    · exact h2 j (by omega) hf)
                clear ih hs
                apply hR 60
                simp (maxSteps := 10000000) (disch := omega) only [hS, hn, sm_eqs, hf, ha, sm_b0, Int.reduceToNat, ↓reduceIte, Nat.reduceEqDiff, true_and, and_true, List.length_nil, List.length_cons, Nat.reduceAdd, Nat.reduceLeDiff, Nat.zero_le, false_implies, true_implies, not_true_eq_false, not_false_eq_true, implies_true, Nat.reduceSub, Nat.reduceMul, Nat.reduceDiv, reduceCtorEq, tn_clamp, nI_t, tn_nI, nI_add, pk_mul, rS_gS, rS_gA, rS_gL, rA_gS, rA_gA, rA_gL, rL_gS, rL_gA, rL_gL, and_self, and_false, false_and, if_true, if_false, true_or, or_true, or_false, false_or, sm_in, eqI, sI_s, Int32.toInt_zero, Int.natCast_zero, Int.natCast_one, Int.cast_ofNat_Int, Int.reduceEq, Int.reduceLT, Int.reduceLE, Int.reduceNeg, Int.reduceNe, ne_eq, n_up, g_up, e_cat, fr_A, fr_O, fr_P, fr_L, sp_X9_isIn, sp_X6_size, z, hb, lgc_0, hne]
                clear hn hf ha hS hR
                grind
              · have hlt := cnt_lt 64 (f := bitL ins) (h := bitL (ins ||| lN 1 <<< ((nI o).toInt64 &&& 63))) (fun i hi h => by rw [bit_or (by omega), h]; rfl) ⟨o, by omega, hb, by rw [bit_or (by omega)]; simp⟩
                have ih2 := ih2 (o + 1) (by omega) (by omega) (ins ||| lN 1 <<< ((nI o).toInt64 &&& 63)) (sh ||| rL g 43 o) (nI 1) (hIv_add z2 hI (by omega) hne) (by omega) (Or.inl ⟨rfl, by omega⟩)
                clear ih hs
                apply hR 60
                simp (maxSteps := 10000000) (disch := omega) only [hS, hn, sm_eqs, hf, ha, sm_b0, Int.reduceToNat, ↓reduceIte, Nat.reduceEqDiff, true_and, and_true, List.length_nil, List.length_cons, Nat.reduceAdd, Nat.reduceLeDiff, Nat.zero_le, false_implies, true_implies, not_true_eq_false, not_false_eq_true, implies_true, Nat.reduceSub, Nat.reduceMul, Nat.reduceDiv, reduceCtorEq, tn_clamp, nI_t, tn_nI, nI_add, pk_mul, rS_gS, rS_gA, rS_gL, rA_gS, rA_gA, rA_gL, rL_gS, rL_gA, rL_gL, and_self, and_false, false_and, if_true, if_false, true_or, or_true, or_false, false_or, sm_in, eqI, sI_s, Int32.toInt_zero, Int.natCast_zero, Int.natCast_one, Int.cast_ofNat_Int, Int.reduceEq, Int.reduceLT, Int.reduceLE, Int.reduceNeg, Int.reduceNe, ne_eq, n_up, g_up, e_cat, fr_A, fr_O, fr_P, fr_L, sp_X9_isIn, sp_X6_size, z, hb, lgc_0, hne]
                clear hn hf ha hS hR
                grind
        have h0 := inner _ 0 rfl (Nat.zero_le _) ins sh (nI 0) hI hcd (Or.inr ⟨rfl, fun j h => by omega⟩)
        clear ih hs inner
        apply hR 60
        simp (maxSteps := 10000000) (disch := omega) only [hS, hn, sm_eqs, hf, ha, sm_b0, Int.reduceToNat, ↓reduceIte, Nat.reduceEqDiff, true_and, and_true, List.length_nil, List.length_cons, Nat.reduceAdd, Nat.reduceLeDiff, Nat.zero_le, false_implies, true_implies, not_true_eq_false, not_false_eq_true, implies_true, Nat.reduceSub, Nat.reduceMul, Nat.reduceDiv, reduceCtorEq, tn_clamp, nI_t, tn_nI, nI_add, pk_mul, rS_gS, rS_gA, rS_gL, rA_gS, rA_gA, rA_gL, rL_gS, rL_gA, rL_gL, and_self, and_false, false_and, if_true, if_false, true_or, or_true, or_false, false_or, sm_in, eqI, sI_s, Int32.toInt_zero, Int.natCast_zero, Int.natCast_one, Int.cast_ofNat_Int, Int.reduceEq, Int.reduceLT, Int.reduceLE, Int.reduceNeg, Int.reduceNe, ne_eq, n_up, g_up, e_cat, fr_A, fr_O, fr_P, fr_L, sp_X9_isIn, sp_X6_size]
        clear hn hf ha hS hR
        grind
      · have hs := hs ins (hIv_end z2 hI hcl)
        clear ih
        apply hR 60
        simp (maxSteps := 10000000) (disch := omega) only [hS, hn, sm_eqs, hf, ha, sm_b0, Int.reduceToNat, ↓reduceIte, Nat.reduceEqDiff, true_and, and_true, List.length_nil, List.length_cons, Nat.reduceAdd, Nat.reduceLeDiff, Nat.zero_le, false_implies, true_implies, not_true_eq_false, not_false_eq_true, implies_true, Nat.reduceSub, Nat.reduceMul, Nat.reduceDiv, reduceCtorEq, tn_clamp, nI_t, tn_nI, nI_add, pk_mul, rS_gS, rS_gA, rS_gL, rA_gS, rA_gA, rA_gL, rL_gS, rL_gA, rL_gL, and_self, and_false, false_and, if_true, if_false, true_or, or_true, or_false, false_or, sm_in, eqI, sI_s, Int32.toInt_zero, Int.natCast_zero, Int.natCast_one, Int.cast_ofNat_Int, Int.reduceEq, Int.reduceLT, Int.reduceLE, Int.reduceNeg, Int.reduceNe, ne_eq, n_up, g_up, e_cat, fr_A, fr_O, fr_P, fr_L, sp_X9_isIn, sp_X6_size]
        clear hn hf ha hS hR
        grind
  have h0 := outer _ 0 rfl (Nat.zero_le _) (lN 1 <<< ((nI r).toInt64 &&& 63)) (rL g 43 r) (nI 1) none ⟨fun i hi hb => by
      rw [bit_one (by omega)] at hb
      obtain rfl : i = r := by simpa using hb
      exact ⟨hr2, fun P hP _ => hP⟩, by rw [bit_one (by omega)]; simp, fun t ht => ⟨fun h => ⟨r, hr2, by rw [bit_one (by omega)]; simp, h⟩, fun ⟨i, hi, h1, h2⟩ => by
      rw [bit_one (by omega)] at h1
      obtain rfl : i = r := by simpa using h1
      exact h2⟩⟩ (Or.inl ⟨rfl, by
        have := cnt_lt 64 (f := fun _ => false) (h := bitL (lN 1 <<< ((nI r).toInt64 &&& 63))) (fun i hi h => by cases h) ⟨r, by omega, rfl, by rw [bit_one (by omega)]; simp⟩
        omega⟩)
  apply hR 60
  simp (maxSteps := 10000000) (disch := omega) only [hS, hn, sm_eqs, hf, ha, sm_b0, Int.reduceToNat, ↓reduceIte, Nat.reduceEqDiff, true_and, and_true, List.length_nil, List.length_cons, Nat.reduceAdd, Nat.reduceLeDiff, Nat.zero_le, false_implies, true_implies, not_true_eq_false, not_false_eq_true, implies_true, Nat.reduceSub, Nat.reduceMul, Nat.reduceDiv, reduceCtorEq, tn_clamp, nI_t, tn_nI, nI_add, pk_mul, rS_gS, rS_gA, rS_gL, rA_gS, rA_gA, rA_gL, rL_gS, rL_gA, rL_gL, and_self, and_false, false_and, if_true, if_false, true_or, or_true, or_false, false_or, sm_in, eqI, sI_s, Int32.toInt_zero, Int.natCast_zero, Int.natCast_one, Int.cast_ofNat_Int, Int.reduceEq, Int.reduceLT, Int.reduceLE, Int.reduceNeg, Int.reduceNe, ne_eq, n_up, g_up, e_cat, fr_A, fr_O, fr_P, fr_L, sp_X9_isIn, sp_X6_size]
  exact ⟨by omega, h0⟩
theorem ok_X3_hangTogether (l : Launch) : sm_spok l lay sm_mt 2 50 sp_X3_hangTogether := Or.inr (Or.inr (Or.inr ⟨by decide, by decide, by
  rw [mt_50]
  exact sm_method (T := TX3_) v_cok v_lok v_ka v_tok_X3 mok_X3_hangTogether rfl (by unfold sm_rk; simp) wf_X3_hangTogether (List.forall_mem_cons.mpr ⟨sm_spok_up (Nat.le_of_ble_eq_true rfl : 1 ≤ 1) (ok_X9_isIn l), List.forall_mem_cons.mpr ⟨sm_spok_up (Nat.le_of_ble_eq_true rfl : 1 ≤ 1) (ok_X6_size l), fun _ h => absurd h List.not_mem_nil⟩⟩) b_X3_hangTogether⟩))
