/-! The reference: what is needed for what is fitted. -/
theorem fd_ft {c g : sm_G} {r : Nat} (hn : nT c ≤ 60) (h1 : hol (rA g 78) (ftL c r)) (h2 : rS g 53 1033 = nI (ftL c r).length) : mN g = (ftL c r).length ∧ ∀ i, i < (ftL c r).length → fd g i = (ftL c r).getD i 0 ∧ (ftL c r).getD i 0 < nT c ∧ ftC c r ((ftL c r).getD i 0) := by
  have hlen : (ftL c r).length ≤ 60 := by rw [ftL_len]; have := cnt_le (fun t => dc (ftC c r t)) (nT c); omega
  refine ⟨by unfold mN; rw [h2, tn_nI (by omega)], fun i hi => ?_⟩
  have hm : (ftL c r).getD i 0 ∈ ftL c r := by
    rw [List.getD_eq_getElem?_getD, List.getElem?_eq_getElem hi]; exact List.getElem_mem _
  obtain ⟨a, b⟩ := mem_lst.mp hm
  exact ⟨by unfold fd; rw [hol_F h1 hi, tn_nI (by omega)], a, dc_t.mp b⟩
theorem nd_ft {c g : sm_G} {r k : Nat} (hn : nT c ≤ 60) (h1 : hol (rA g 78) (ftL c r)) (h2 : rS g 53 1033 = nI (ftL c r).length) (h12 : mN g ≤ 12) (hk : isNd (bF c g) 16 k (sM (nI (2 ^ mN g - 1)))) : isNd (fun t q => (anC c 9 t q).toInt) 16 k (fun t => t < nT c ∧ ftC c r t) := by
  obtain ⟨e1, e2⟩ := fd_ft hn h1 h2
  have hch : ∀ t, ∃ j, (t < nT c ∧ ftC c r t) → j < mN g ∧ fd g j = t := fun t => by
    by_cases h : t < nT c ∧ ftC c r t
    · obtain ⟨i, hi, hx, _⟩ := lst_idx (show t ∈ ftL c r from mem_lst.mpr ⟨h.1, dc_t.mpr h.2⟩)
      exact ⟨i, fun _ => ⟨by omega, by rw [(e2 i hi).1, hx]⟩⟩
    · exact ⟨0, fun a => absurd a h⟩
  obtain ⟨f, hf⟩ := Classical.axiomOfChoice hch
  have hbt : ∀ j, sM (nI (2 ^ mN g - 1)) j ↔ j < mN g := fun j => by unfold sM; rw [bi_full h12, decide_eq_true_eq]
  refine isNd_rep f (fd g) (fun t ht => ?_) (fun j hj => ?_) hk
  · obtain ⟨a, b⟩ := hf t ht
    exact ⟨(hbt _).mpr a, fun q _ => by unfold bF; rw [b]⟩
  · have := (hbt j).mp hj
    obtain ⟨a, b, d⟩ := e2 j (by omega)
    exact ⟨by rw [a]; exact ⟨b, d⟩, fun q _ => rfl⟩
theorem bF_hi {c g : sm_G} (h : CP c g) (hfd : fdOk g) {i q : Nat} (hi : i < mN g) (hq : nQ c ≤ q) : bF c g i q = -1 := by
  unfold bF
  rw [an_hi (iv_wL h.1).2 (hfd.1 i hi).2 hq]
  exact sI_s.1
/-- by the best question one more is needed than behind it -/
theorem nd_one {B : Nat → Nat → Int} {S : Nat → Prop} {D Q w : Nat} (hD : D ≤ 12) (hb : ∀ x, S x → x < D) (hhi : ∀ q, Q ≤ q → q < 16 → ¬ prt B S q) (hQ : Q ≤ 16) (h1 : ∃ u, u < Q ∧ prt B S u ∧ nq B 16 w S u) (h2 : ∀ u, u < Q → prt B S u → ∀ k, k < w → ¬ nq B 16 k S u) : isNd B 16 (w + 1) S ∧ w + 1 ≤ 12 := by
  obtain ⟨u, hu, hp, hq⟩ := h1
  have hp2 := hp
  obtain ⟨x, y, sx, sy, hne⟩ := hp2
  have h0 : ¬ nd B 16 0 S := fun h => hne (h x y sx sy u (by omega))
  have hi : isNd B 16 (w + 1) S := ⟨Or.inr ⟨u, by omega, hq⟩, nd_min h0 ⟨x, sx⟩ (fun q hq16 hpq k hk => by
    by_cases e : q < Q
    · exact h2 q e hpq k (by omega)
    · exact absurd hpq (hhi q (by omega) hq16))⟩
  refine ⟨hi, Classical.byContradiction (fun e => ?_)⟩
  exact hi.2 11 (by omega) (nd_upper (n := 11) (fun x hx => by have := hb x hx; omega) (cnt_bound 32 (fun i _ h => by have := hb i (dc_t.mp h); omega)))
theorem nd_zer {B : Nat → Nat → Int} {S : Nat → Prop} {Q : Nat} (hhi : ∀ q, Q ≤ q → q < 16 → ¬ prt B S q) (h1 : ∀ u, u < Q → ¬ prt B S u) : isNd B 16 0 S := by
  refine ⟨fun x y sx sy q hq => Classical.byContradiction (fun e => ?_), fun j h => by omega⟩
  by_cases e2 : q < Q
  · exact h1 q e2 ⟨x, y, sx, sy, e⟩
  · exact hhi q (by omega) hq ⟨x, y, sx, sy, e⟩
def sp_X10_fewest (c : sm_G) : sm_SP := fun as g K => match as with
  | [.ref p, .int r] => p = 53 ∧ CP c g ∧ (∀ h, mS g h → CP c h → (okR c r ∧ 12 < cnt (fun t => dc (ftC c (tn r) t)) (nT c) → K (some (.int (sI 1))) h) ∧ (okR c r ∧ ¬ 12 < cnt (fun t => dc (ftC c (tn r) t)) (nT c) → ∀ k, k ≤ 12 → isNd (fun t q => (anC c 9 t q).toInt) 16 k (fun t => t < nT c ∧ ftC c (tn r) t) → K (some (.int (nI k))) h) ∧ (¬ okR c r → K (some (.int (sI 0))) h))
  | _ => False
theorem wf_X10_fewest (c : sm_G) : sm_wf lay (yX10_fewest, cX10_fewest, 6, (some .int)) 2 false (sp_X10_fewest c) := by
  intro as g K h
  simp only [sp_X10_fewest] at h
  split at h
  · exact ⟨Nat.le_of_ble_eq_true rfl, by simp, rfl, fun _ => by obtain rfl := h.1; exact ⟨53, _, 10, [1, 1, 56, 57, 58, 59, 60, 61, 1, 1, 62, 63, 64, 65, 66, 67, 68, 69, 70, 71, 72, 73, 1, 74, 75, 76, 77, 1, 1, 78, 79, 1, 80, 1, 81, 1, 82, 83, 84, 85, 86, 1], TX10, 42, rfl, rfl, rfl⟩⟩
  · exact h.elim
set_option maxHeartbeats 4000000 in
set_option maxRecDepth 100000 in
theorem b_X10_fewest (c : sm_G) : sm_body lay NX10_fewest 6 0 (sm_cl [(169, sp_X10_isReport c), (201, sp_X10_findFitted c), (206, sp_X10_worst c)]) (sp_X10_fewest c) := by
  intro K J S hW as g hs
  have hn := n_X10_fewest
  have hf := fd_all
  have ha := ar_all
  generalize NX10_fewest = N at hn hW
  generalize lay = L at hf ha hW
  obtain ⟨hS, hR⟩ := hW
  simp only [sp_X10_fewest] at hs
  split at hs
  case h_2 => exact hs.elim
  simp only [e_args, sm_pad, List.length_cons, List.length_nil, Nat.reduceAdd, Nat.reduceSub, List.replicate_succ, List.replicate_zero, List.cons_append, List.nil_append]
  rename_i p r
  obtain ⟨rfl, h, hs⟩ := hs
  have hn2 := CP_n h
  have fr := fun h9 => okR_60 (r := r) h.1.2.1.2.2.2.2.1 h9
  have h2 := (hs (gS g 53 1000 (nI 0)) (mS_S (mS_rf g)) h).2.2
  rw [← ftL_len] at hs
  have loop : okR c r → ∀ F, hol F (ftL c (tn r)) → ∀ s, s = gS (gS (gA g 78 F) 53 1000 (nI 0)) 53 1033 (nI (ftL c (tn r)).length) → (ftL c (tn r)).length ≤ 12 → ∀ d m, d = 2 ^ mN s - m → 1 ≤ m → m ≤ 2 ^ mN s → ∀ f9, ndT c (gA s 79 f9) m → ∀ v3 v4 v5, J 41 [some (.ref 53), some (.int r), some (.int (nI m)), v3, v4, v5] [] (gA s 79 f9) := by
    intro ho F hF s hse h12
    obtain ⟨s1, _⟩ := cls_ft (g := s) hn2.2.2.1 (r := tn r) (by rw [hse]; exact hF) (by rw [hse]; rfl)
    have hmN := (fd_ft (g := s) hn2.2.2.1 (r := tn r) (by rw [hse]; exact hF) (by rw [hse]; rfl)).1
    have hcp : CP c s := by rw [hse]; simp only [cp_fr]; exact h
    have fin : ∀ f9 k, k ≤ 12 → isNd (bF c s) 16 k (sM (nI (2 ^ mN s - 1))) → K (some (.int (nI k))) (gA s 79 f9) := fun f9 k hk hn9 => by
      refine (hs (gA s 79 f9) (by rw [hse]; exact mS_A (mS_S (mS_S (mS_A (mS_rf g) (by omega)))) (by omega)) (by simp only [cp_fr]; exact hcp)).2.1 ⟨ho, by omega⟩ k hk ?_
      exact nd_ft (g := s) hn2.2.2.1 (by rw [hse]; exact hF) (by rw [hse]; rfl) (by omega) hn9
    have hcp9 : ∀ f9, CP c (gA s 79 f9) := fun f9 => by simp only [cp_fr]; exact hcp
    have s19 : ∀ f9, fdOk (gA s 79 f9) := fun f9 => s1
    have hq0 := hcp.2.1.1
    have hm0 := s1.2.2
    have hw12 : 2 ^ mN s ≤ 2 ^ 12 := Nat.pow_le_pow_right (by omega) (by omega)
    have hsh : nI 1 <<< (nI (mN s) &&& 31) = nI (2 ^ mN s) := bi_shl _ (by omega)
    clear hse hF h h2 fr hs
    have hbm : ∀ m, m < 2 ^ mN s → ∀ i, sM (nI m) i → i < mN s := fun m hmD i hi => by
      unfold sM at hi
      rw [bi_nI (by omega)] at hi
      refine Classical.byContradiction (fun e => ?_)
      rw [Nat.testBit_lt_two_pow (Nat.lt_of_lt_of_le hmD (Nat.pow_le_pow_right (by omega) (by omega)))] at hi
      cases hi
    have hhi : ∀ m, m < 2 ^ mN s → ∀ q, nQ c ≤ q → q < 16 → ¬ prt (bF c s) (sM (nI m)) q := fun m hm q hq _ ⟨x, y, sx, sy, e⟩ => e (by
      rw [bF_hi hcp s1 (hbm m hm x sx) hq, bF_hi hcp s1 (hbm m hm y sy) hq])
    obtain ⟨W, hW⟩ : ∃ W, W = 2 ^ mN s := ⟨_, rfl⟩
    rw [← hW] at hsh hw12 fin hbm hhi ⊢
    intro d
    induction d with
    | zero =>
      intro m hd hm1 hmW f9 hT v3 v4 v5
      obtain rfl : m = W := by omega
      obtain ⟨k, k12, hk, hnd⟩ := hT (m - 1) (by omega)
      have hk : f9 (m - 1) = nI k := hk
      have fin := fin f9 k k12 hnd
      have hm1s : nI m - nI 1 = nI (m - 1) := pk_sub (by omega)
      apply hR 60
      simp (maxSteps := 10000000) (disch := omega) only [hS, hn, sm_eqs, hf, ha, sm_b0, Int.reduceToNat, ↓reduceIte, Nat.reduceEqDiff, true_and, and_true, List.length_nil, List.length_cons, Nat.reduceAdd, Nat.reduceLeDiff, Nat.zero_le, false_implies, true_implies, not_true_eq_false, not_false_eq_true, implies_true, Nat.reduceSub, Nat.reduceMul, Nat.reduceDiv, reduceCtorEq, tn_clamp, nI_t, tn_nI, nI_add, pk_mul, rS_gS, rS_gA, rS_gL, rA_gS, rA_gA, rA_gL, rL_gS, rL_gA, rL_gL, and_self, and_false, false_and, if_true, if_false, true_or, or_true, or_false, false_or, sm_in, eqI, sI_s, Int32.toInt_zero, Int.natCast_zero, Int.natCast_one, Int.cast_ofNat_Int, Int.reduceEq, Int.reduceLT, Int.reduceLE, Int.reduceNeg, Int.reduceNe, ne_eq, n_up, g_up, e_cat, fr_A, fr_O, fr_P, fr_L, sp_X10_isReport, sp_X10_findFitted, sp_X10_worst, hm0, hsh, hm1s, hk]
      clear hn hf ha hS hR
      exact ⟨fun a => absurd a (by omega), fun _ => ⟨⟨by omega, by omega⟩, fin⟩⟩
    | succ d ih =>
      intro m hd hm1 hmW f9 hT v3 v4 v5
      have ihA := fun (hp : ∀ u, u < nQ c → ¬ prt (bF c s) (sM (nI m)) u) v3 v4 v5 => ih (m + 1) (by omega) (by omega) (by omega) (upd f9 m (nI 0)) (fun a ha9 => by
        by_cases e : a = m
        · refine ⟨0, by omega, ?_, ?_⟩
          · show upd f9 m (nI 0) a = nI 0
            rw [e, pk_us]
          · rw [e]; exact nd_zer (hhi m (by omega)) hp
        · obtain ⟨k, k1, k2, k3⟩ := hT a (by omega)
          refine ⟨k, k1, ?_, k3⟩
          show upd f9 m (nI 0) a = nI k
          rw [pk_un e]; exact k2) v3 v4 v5
      have ihB := fun w (h1 : ∃ u, u < nQ c ∧ prt (bF c s) (sM (nI m)) u ∧ nq (bF c s) 16 w (sM (nI m)) u) (h2 : ∀ u, u < nQ c → prt (bF c s) (sM (nI m)) u → ∀ k, k < w → ¬ nq (bF c s) 16 k (sM (nI m)) u) v3 v4 v5 => ih (m + 1) (by omega) (by omega) (by omega) (upd f9 m (nI (w + 1))) (fun a ha9 => by
        by_cases e : a = m
        · obtain ⟨k1, k2⟩ := nd_one (D := mN s) (by omega) (hbm m (by omega)) (hhi m (by omega)) hn2.1 h1 h2
          refine ⟨w + 1, k2, ?_, ?_⟩
          · show upd f9 m (nI (w + 1)) a = nI (w + 1)
            rw [e, pk_us]
          · rw [e]; exact k1
        · obtain ⟨k, k1, k2, k3⟩ := hT a (by omega)
          refine ⟨k, k1, ?_, k3⟩
          show upd f9 m (nI (w + 1)) a = nI k
          rw [pk_un e]; exact k2) v3 v4 v5
      clear ih fin
      have l2 : ∀ d q, d = nQ c - q → q ≤ nQ c → ∀ b v5, (b = sI 0 ∧ (∀ u, u < q → ¬ prt (bF c s) (sM (nI m)) u) ∨ ∃ w, w ≤ 12 ∧ b = nI w ∧ (∃ u, u < q ∧ prt (bF c s) (sM (nI m)) u ∧ nq (bF c s) 16 w (sM (nI m)) u) ∧ ∀ u, u < q → prt (bF c s) (sM (nI m)) u → ∀ k, k < w → ¬ nq (bF c s) 16 k (sM (nI m)) u) →
          J 56 [some (.ref 53), some (.int r), some (.int (nI m)), some (.int b), some (.int (nI q)), v5] [] (gA s 79 f9) := by
        intro d
        induction d with
        | zero =>
          intro q hd2 hq b v5 hb
          obtain rfl : q = nQ c := by omega
          rcases hb with ⟨rfl, hp⟩ | ⟨w, hw, rfl, h1, h2⟩
          · have ihA := ihA hp
            clear ihB
            have e0 : sI 0 + nI 1 = nI 0 := rfl
            apply hR 60
            simp (maxSteps := 10000000) (disch := omega) only [hS, hn, sm_eqs, hf, ha, sm_b0, Int.reduceToNat, ↓reduceIte, Nat.reduceEqDiff, true_and, and_true, List.length_nil, List.length_cons, Nat.reduceAdd, Nat.reduceLeDiff, Nat.zero_le, false_implies, true_implies, not_true_eq_false, not_false_eq_true, implies_true, Nat.reduceSub, Nat.reduceMul, Nat.reduceDiv, reduceCtorEq, tn_clamp, nI_t, tn_nI, nI_add, pk_mul, rS_gS, rS_gA, rS_gL, rA_gS, rA_gA, rA_gL, rL_gS, rL_gA, rL_gL, and_self, and_false, false_and, if_true, if_false, true_or, or_true, or_false, false_or, sm_in, eqI, sI_s, Int32.toInt_zero, Int.natCast_zero, Int.natCast_one, Int.cast_ofNat_Int, Int.reduceEq, Int.reduceLT, Int.reduceLE, Int.reduceNeg, Int.reduceNe, ne_eq, n_up, g_up, e_cat, fr_A, fr_O, fr_P, fr_L, sp_X10_isReport, sp_X10_findFitted, sp_X10_worst, hq0, e0]
            clear hn hf ha hS hR
            exact ⟨fun a => absurd a (by omega), fun _ => ⟨⟨by omega, by omega⟩, ihA _ _ _⟩⟩
          · have ihB := ihB w h1 h2
            clear ihA
            apply hR 60
            simp (maxSteps := 10000000) (disch := omega) only [hS, hn, sm_eqs, hf, ha, sm_b0, Int.reduceToNat, ↓reduceIte, Nat.reduceEqDiff, true_and, and_true, List.length_nil, List.length_cons, Nat.reduceAdd, Nat.reduceLeDiff, Nat.zero_le, false_implies, true_implies, not_true_eq_false, not_false_eq_true, implies_true, Nat.reduceSub, Nat.reduceMul, Nat.reduceDiv, reduceCtorEq, tn_clamp, nI_t, tn_nI, nI_add, pk_mul, rS_gS, rS_gA, rS_gL, rA_gS, rA_gA, rA_gL, rL_gS, rL_gA, rL_gL, and_self, and_false, false_and, if_true, if_false, true_or, or_true, or_false, false_or, sm_in, eqI, sI_s, Int32.toInt_zero, Int.natCast_zero, Int.natCast_one, Int.cast_ofNat_Int, Int.reduceEq, Int.reduceLT, Int.reduceLE, Int.reduceNeg, Int.reduceNe, ne_eq, n_up, g_up, e_cat, fr_A, fr_O, fr_P, fr_L, sp_X10_isReport, sp_X10_findFitted, sp_X10_worst, hq0]
            clear hn hf ha hS hR
            exact ⟨fun a => absurd a (by omega), fun _ => ⟨⟨by omega, by omega⟩, ihB _ _ _⟩⟩
        | succ d ih =>
          intro q hd2 hq b v5 hb
          have ih := ih (q + 1) (by omega) (by omega)
          clear ihA ihB
          have hT2 := hT
          have hcp9 := hcp9 f9
          have s19 := s19 f9
          have hqi : sm_in (nI q) 16 := ⟨by rw [nI_t (by omega)]; omega, by rw [nI_t (by omega)]; omega⟩
          have hmN9 : mN (gA s 79 f9) ≤ 12 := by show mN s ≤ 12; omega
          have hm9 : m < 2 ^ mN (gA s 79 f9) := by show m < 2 ^ mN s; omega
          have key : ∀ K2 : Option Value → sm_G → Prop, (¬ prt (bF c s) (sM (nI m)) q → K2 (some (.int (sI 0))) (gA s 79 f9)) → (∀ w, w ≤ 12 → prt (bF c s) (sM (nI m)) q → nq (bF c s) 16 w (sM (nI m)) q → (∀ k, k < w → ¬ nq (bF c s) 16 k (sM (nI m)) q) → K2 (some (.int (nI w))) (gA s 79 f9)) → sp_X10_worst c [.ref 53, .int (nI m), .int (nI q)] (gA s 79 f9) K2 := fun K2 k1 k2 => by
            simp only [sp_X10_worst]
            refine ⟨trivial, hcp9, hqi, s19, hmN9, m, rfl, hm1, hm9, hT2, ?_, ?_⟩
            · rw [tn_nI (by omega)]; exact k1
            · rw [tn_nI (by omega)]; exact k2
          have iA : ¬ prt (bF c s) (sM (nI m)) q → J 56 [some (.ref 53), some (.int r), some (.int (nI m)), some (.int b), some (.int (nI (q + 1))), some (.int (sI 0))] [] (gA s 79 f9) := fun hp => ih b _ (by
            rcases hb with ⟨e, h1⟩ | ⟨w, hw, e, ⟨u, u1, u2⟩, h2⟩
            · exact Or.inl ⟨e, fun u hu => by
                by_cases e : u = q
                · rw [e]; exact hp
                · exact h1 u (by omega)⟩
            · exact Or.inr ⟨w, hw, e, ⟨u, by omega, u2⟩, fun u hu hpu => by
                by_cases e : u = q
                · rw [e] at hpu; exact absurd hpu hp
                · exact h2 u (by omega) hpu⟩)
          have iB : ∀ w, w ≤ 12 → prt (bF c s) (sM (nI m)) q → nq (bF c s) 16 w (sM (nI m)) q → (∀ k, k < w → ¬ nq (bF c s) 16 k (sM (nI m)) q) → (b.toInt = -1 → J 56 [some (.ref 53), some (.int r), some (.int (nI m)), some (.int (nI w)), some (.int (nI (q + 1))), some (.int (nI w))] [] (gA s 79 f9)) ∧ (¬ b.toInt = -1 → ((w : Int) < b.toInt → J 56 [some (.ref 53), some (.int r), some (.int (nI m)), some (.int (nI w)), some (.int (nI (q + 1))), some (.int (nI w))] [] (gA s 79 f9)) ∧ (b.toInt ≤ (w : Int) → J 56 [some (.ref 53), some (.int r), some (.int (nI m)), some (.int b), some (.int (nI (q + 1))), some (.int (nI w))] [] (gA s 79 f9))) := fun w hw hp h1 h2 => by
            rcases hb with ⟨e, h3⟩ | ⟨w2, hw2, e, ⟨u, u1, u2, u3⟩, h4⟩
            · have e1 : b.toInt = -1 := by rw [e]; exact sI_s.1
              refine ⟨fun _ => ih _ _ (Or.inr ⟨w, hw, rfl, ⟨q, by omega, hp, h1⟩, fun u hu hpu => ?_⟩), fun a => absurd e1 a⟩
              by_cases e : u = q
              · rw [e]; exact h2
              · exact absurd hpu (h3 u (by omega))
            · have e1 : b.toInt = (w2 : Int) := by rw [e]; exact nI_t (by omega)
              refine ⟨fun a => by omega, fun _ => ⟨fun a => ih _ _ (Or.inr ⟨w, hw, rfl, ⟨q, by omega, hp, h1⟩, fun u hu hpu k hk => ?_⟩), fun a => ih _ _ (Or.inr ⟨w2, hw2, e, ⟨u, by omega, u2, u3⟩, fun u hu hpu k hk => ?_⟩)⟩⟩
              · by_cases e : u = q
                · rw [e]; exact h2 k hk
                · exact h4 u (by omega) hpu k (by omega)
              · by_cases e : u = q
                · rw [e]; exact h2 k (by omega)
                · exact h4 u (by omega) hpu k hk
          clear hb ih hT
          apply hR 60
          simp (maxSteps := 10000000) (disch := omega) only [hS, hn, sm_eqs, hf, ha, sm_b0, Int.reduceToNat, ↓reduceIte, Nat.reduceEqDiff, true_and, and_true, List.length_nil, List.length_cons, Nat.reduceAdd, Nat.reduceLeDiff, Nat.zero_le, false_implies, true_implies, not_true_eq_false, not_false_eq_true, implies_true, Nat.reduceSub, Nat.reduceMul, Nat.reduceDiv, reduceCtorEq, tn_clamp, nI_t, tn_nI, nI_add, pk_mul, rS_gS, rS_gA, rS_gL, rA_gS, rA_gA, rA_gL, rL_gS, rL_gA, rL_gL, and_self, and_false, false_and, if_true, if_false, true_or, or_true, or_false, false_or, sm_in, eqI, sI_s, Int32.toInt_zero, Int.natCast_zero, Int.natCast_one, Int.cast_ofNat_Int, Int.reduceEq, Int.reduceLT, Int.reduceLE, Int.reduceNeg, Int.reduceNe, ne_eq, n_up, g_up, e_cat, fr_A, fr_O, fr_P, fr_L, sp_X10_isReport, sp_X10_findFitted, sp_X10_worst, hq0]
          clear hn hf ha hS hR
          refine ⟨fun _ => ⟨hcp9, ⟨by omega, by omega⟩, s19, hmN9, m, (nI_t (by omega)).symm, hm1, hm9, hT2, iA, fun w hw hp h1 h2 => ?_⟩, fun a => absurd a (by omega)⟩
          obtain ⟨i1, i2⟩ := iB w hw hp h1 h2
          rw [nI_t (show w < 2147483648 by omega)]
          exact ⟨fun a => absurd a (by omega), fun _ => ⟨i1, fun a => ⟨(i2 a).1, fun d => (i2 a).2 (by omega)⟩⟩⟩
      have h0 := l2 _ 0 rfl (Nat.zero_le _) (sI 0) v5 (Or.inl ⟨rfl, fun u hu => by omega⟩)
      clear l2 ihA ihB
      apply hR 60
      simp (maxSteps := 10000000) (disch := omega) only [hS, hn, sm_eqs, hf, ha, sm_b0, Int.reduceToNat, ↓reduceIte, Nat.reduceEqDiff, true_and, and_true, List.length_nil, List.length_cons, Nat.reduceAdd, Nat.reduceLeDiff, Nat.zero_le, false_implies, true_implies, not_true_eq_false, not_false_eq_true, implies_true, Nat.reduceSub, Nat.reduceMul, Nat.reduceDiv, reduceCtorEq, tn_clamp, nI_t, tn_nI, nI_add, pk_mul, rS_gS, rS_gA, rS_gL, rA_gS, rA_gA, rA_gL, rL_gS, rL_gA, rL_gL, and_self, and_false, false_and, if_true, if_false, true_or, or_true, or_false, false_or, sm_in, eqI, sI_s, Int32.toInt_zero, Int.natCast_zero, Int.natCast_one, Int.cast_ofNat_Int, Int.reduceEq, Int.reduceLT, Int.reduceLE, Int.reduceNeg, Int.reduceNe, ne_eq, n_up, g_up, e_cat, fr_A, fr_O, fr_P, fr_L, sp_X10_isReport, sp_X10_findFitted, sp_X10_worst, hm0, hsh]
      clear hn hf ha hS hR
      exact ⟨fun _ => h0, fun a => absurd a (by omega)⟩
  apply hR 40
  simp (maxSteps := 10000000) (disch := omega) only [hS, hn, sm_eqs, hf, ha, sm_b0, Int.reduceToNat, ↓reduceIte, Nat.reduceEqDiff, true_and, and_true, List.length_nil, List.length_cons, Nat.reduceAdd, Nat.reduceLeDiff, Nat.zero_le, false_implies, true_implies, not_true_eq_false, not_false_eq_true, implies_true, Nat.reduceSub, Nat.reduceMul, Nat.reduceDiv, reduceCtorEq, tn_clamp, nI_t, tn_nI, nI_add, pk_mul, rS_gS, rS_gA, rS_gL, rA_gS, rA_gA, rA_gL, rL_gS, rL_gA, rL_gL, and_self, and_false, false_and, if_true, if_false, true_or, or_true, or_false, false_or, sm_in, eqI, sI_s, Int32.toInt_zero, Int.natCast_zero, Int.natCast_one, Int.cast_ofNat_Int, Int.reduceEq, Int.reduceLT, Int.reduceLE, Int.reduceNeg, Int.reduceNe, ne_eq, n_up, g_up, e_cat, fr_A, fr_O, fr_P, fr_L, sp_X10_isReport, sp_X10_findFitted, sp_X10_worst, h, cp_fr]
  clear hn hf ha hS hR
  refine ⟨fun ho => ⟨fr ho, fun F hF => ?_⟩, fun a => h2 a⟩
  have hlen : (ftL c (tn r)).length ≤ 60 := by rw [ftL_len]; have := cnt_le (fun t => dc (ftC c (tn r) t)) (nT c); omega
  rw [nI_t (show (ftL c (tn r)).length < 2147483648 by omega)]
  refine ⟨fun a => (hs _ (mS_S (mS_S (mS_A (mS_rf g) (by omega)))) (by simp only [cp_fr]; exact h)).1 ⟨ho, by omega⟩, fun a => ?_⟩
  exact loop ho F hF _ rfl (by omega) _ 1 rfl (Nat.le_refl _) (Nat.one_le_pow _ _ (by omega)) (upd (rA g 79) 0 (nI 0)) (fun a ha9 => by
    obtain rfl : a = 0 := by omega
    refine ⟨0, by omega, ?_, fun x y hx => ?_, fun j hj => absurd hj (by omega)⟩
    · show upd (rA g 79) 0 (nI 0) 0 = nI 0
      rw [pk_us]
    · unfold sM at hx; rw [bi_0] at hx; cases hx) none none none
theorem ok_X10_fewest (l : Launch) (c : sm_G) : sm_spok l lay sm_mt 6 207 (sp_X10_fewest c) := Or.inr (Or.inr (Or.inr ⟨by decide, by decide, by
  rw [mt_207]
  exact sm_method (T := TX10_) v_cok v_lok v_ka v_tok_X10 mok_X10_fewest rfl (by unfold sm_rk; simp) (wf_X10_fewest c) (List.forall_mem_cons.mpr ⟨sm_spok_up (Nat.le_of_ble_eq_true rfl : 2 ≤ 5) (ok_X10_isReport l c), List.forall_mem_cons.mpr ⟨sm_spok_up (Nat.le_of_ble_eq_true rfl : 5 ≤ 5) (ok_X10_findFitted l c), List.forall_mem_cons.mpr ⟨sm_spok_up (Nat.le_of_ble_eq_true rfl : 3 ≤ 5) (ok_X10_worst l c), fun _ h => absurd h List.not_mem_nil⟩⟩⟩) (b_X10_fewest c)⟩))
