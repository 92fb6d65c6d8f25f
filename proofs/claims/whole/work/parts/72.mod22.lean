/-! The reference: what is needed, set by set. -/
noncomputable def bF (c g : sm_G) (i q : Nat) : Int := (anC c 9 (fd g i) q).toInt
/-- what is needed for the sets below one is in its row -/
def ndT (c g : sm_G) (m : Nat) : Prop := ∀ a, a < m → ∃ k, k ≤ 12 ∧ rA g 79 a = nI k ∧ isNd (bF c g) 16 k (sM (nI a))
theorem sub_lt {m D : Nat} {x : Int32} (hD : D ≤ 12) (hm : m < 2 ^ D) (hx : ∀ j, bitI x j = true → bitI (nI m) j = true) (hne : x ≠ nI m) : ∃ a, a < m ∧ x = nI a := by
  have hp : 2 ^ D ≤ 2 ^ 12 := Nat.pow_le_pow_right (by omega) hD
  obtain ⟨a, ha, ha2, rfl⟩ := bi_small hD (x := x) (fun i h1 h2 => by
    cases hb : bitI x i with
    | false => rfl
    | true =>
      have := hx i hb
      rw [bi_nI (by omega), Nat.testBit_lt_two_pow (Nat.lt_of_lt_of_le hm (Nat.pow_le_pow_right (by omega) h1))] at this
      cases this)
  refine ⟨a, ?_, rfl⟩
  have e : a &&& m = a := Nat.eq_of_testBit_eq (fun i => by
    rw [Nat.testBit_and]
    cases h : a.testBit i with
    | false => rfl
    | true =>
      have := hx i (by rw [bi_nI (by omega)]; exact h)
      rw [bi_nI (by omega)] at this
      rw [this]; rfl)
  have h1 : a ≤ m := by rw [← e]; exact Nat.and_le_right
  have h2 : a ≠ m := fun h => hne (by rw [h])
  omega
def sp_X10_worst (c : sm_G) : sm_SP := fun as g K => match as with
  | [.ref p, .int s, .int q] => p = 53 ∧ CP c g ∧ sm_in q 16 ∧ fdOk g ∧ mN g ≤ 12 ∧ ∃ m, s = nI m ∧ 1 ≤ m ∧ m < 2 ^ mN g ∧ ndT c g m ∧ (¬ prt (bF c g) (sM (nI m)) (tn q) → K (some (.int (sI 0))) g) ∧ (∀ w, w ≤ 12 → prt (bF c g) (sM (nI m)) (tn q) → nq (bF c g) 16 w (sM (nI m)) (tn q) → (∀ k, k < w → ¬ nq (bF c g) 16 k (sM (nI m)) (tn q)) → K (some (.int (nI w))) g)
  | _ => False
theorem wf_X10_worst (c : sm_G) : sm_wf lay (yX10_worst, cX10_worst, 7, (some .int)) 3 false (sp_X10_worst c) := by
  intro as g K h
  simp only [sp_X10_worst] at h
  split at h
  · exact ⟨Nat.le_of_ble_eq_true rfl, by simp, rfl, fun _ => by obtain rfl := h.1; exact ⟨53, _, 10, [1, 1, 56, 57, 58, 59, 60, 61, 1, 1, 62, 63, 64, 65, 66, 67, 68, 69, 70, 71, 72, 73, 1, 74, 75, 76, 77, 1, 1, 78, 79, 1, 80, 1, 81, 1, 82, 83, 84, 85, 86, 1], TX10, 42, rfl, rfl, rfl⟩⟩
  · exact h.elim
set_option maxHeartbeats 4000000 in
set_option maxRecDepth 100000 in
theorem b_X10_worst (c : sm_G) : sm_body lay NX10_worst 7 0 (sm_cl [(205, sp_X10_classOf c)]) (sp_X10_worst c) := by
  intro K J S hW as g hs
  have hn := n_X10_worst
  have hf := fd_all
  have ha := ar_all
  generalize NX10_worst = N at hn hW
  generalize lay = L at hf ha hW
  obtain ⟨hS, hR⟩ := hW
  simp only [sp_X10_worst] at hs
  split at hs
  case h_2 => exact hs.elim
  simp only [e_args, sm_pad, List.length_cons, List.length_nil, Nat.reduceAdd, Nat.reduceSub, List.replicate_succ, List.replicate_zero, List.cons_append, List.nil_append]
  rename_i p s q
  obtain ⟨rfl, h, hq, hfd, h12, m, rfl, hm1, hmD, hT, h1, h2⟩ := hs
  obtain ⟨q, hq2, rfl⟩ := sm_in_nI hq
  rw [tn_nI (by omega)] at h1 h2
  have hf3 := hfd.2.2
  have hp12 : 2 ^ mN g ≤ 2 ^ 12 := Nat.pow_le_pow_right (by omega) h12
  have hbm : ∀ i, sM (nI m) i → i < mN g := fun i hi => by
    unfold sM at hi
    rw [bi_nI (by omega)] at hi
    refine Classical.byContradiction (fun e => ?_)
    rw [Nat.testBit_lt_two_pow (Nat.lt_of_lt_of_le hmD (Nat.pow_le_pow_right (by omega) (by omega)))] at hi
    cases hi
  have hne : ∃ i, sM (nI m) i := by
    refine Classical.byContradiction (fun e => ?_)
    have : m = 0 := Nat.eq_of_testBit_eq (fun i => by
      rw [Nat.zero_testBit]
      cases hb : m.testBit i with
      | false => rfl
      | true => exact absurd ⟨i, by unfold sM; rw [bi_nI (by omega)]; exact hb⟩ e)
    omega
  have loop : ∀ d i, d = mN g - i → i ≤ mN g → ∀ w l v6, w ≤ 12 → (∀ j, bitI l j = true ↔ (sM (nI m) j ∧ ∀ u, u < i → sM (nI m) u → bF c g u q ≠ bF c g j q)) → (∀ u, u < i → sM (nI m) u → prt (bF c g) (sM (nI m)) q ∧ nd (bF c g) 16 w (fun z => sM (nI m) z ∧ bF c g z q = bF c g u q)) → (∀ k, k < w → ∃ y, sM (nI m) y ∧ ¬ nd (bF c g) 16 k (fun z => sM (nI m) z ∧ bF c g z q = bF c g y q)) →
      J 8 [some (.ref 53), some (.int (nI m)), some (.int (nI q)), some (.int (nI w)), some (.int l), some (.int (nI i)), v6] [] g := by
    intro d
    induction d with
    | zero =>
      intro i hm hi w l v6 hw hl hA hB
      obtain rfl : i = mN g := by omega
      obtain ⟨y, hy⟩ := hne
      have h2 := h2 w hw (hA y (hbm y hy) hy).1 (fun y hy => (hA y (hbm y hy) hy).2) (fun k hk hq => by obtain ⟨y, hy, hn9⟩ := hB k hk; exact hn9 (hq y hy))
      clear h1
      apply hR 60
      simp (maxSteps := 10000000) (disch := omega) only [hS, hn, sm_eqs, hf, ha, sm_b0, Int.reduceToNat, ↓reduceIte, Nat.reduceEqDiff, true_and, and_true, List.length_nil, List.length_cons, Nat.reduceAdd, Nat.reduceLeDiff, Nat.zero_le, false_implies, true_implies, not_true_eq_false, not_false_eq_true, implies_true, Nat.reduceSub, Nat.reduceMul, Nat.reduceDiv, reduceCtorEq, tn_clamp, nI_t, tn_nI, nI_add, pk_mul, rS_gS, rS_gA, rS_gL, rA_gS, rA_gA, rA_gL, rL_gS, rL_gA, rL_gL, and_self, and_false, false_and, if_true, if_false, true_or, or_true, or_false, false_or, sm_in, eqI, sI_s, Int32.toInt_zero, Int.natCast_zero, Int.natCast_one, Int.cast_ofNat_Int, Int.reduceEq, Int.reduceLT, Int.reduceLE, Int.reduceNeg, Int.reduceNe, ne_eq, n_up, g_up, e_cat, fr_A, fr_O, fr_P, fr_L, sp_X10_classOf, hf3]
      repeat' (first | (refine And.intro ?_ ?_) | (intro _))
      all_goals (first | with_reducible assumption | omega | (exfalso; omega))
    | succ d ih =>
      intro i hm hi w l v6 hw hl hA hB
      cases hb : bitI l i with
      | false =>
        have hex : sM (nI m) i → ∃ u, u < i ∧ sM (nI m) u ∧ bF c g u q = bF c g i q := fun hi2 => by
          refine Classical.byContradiction (fun e => ?_)
          have := (hl i).mpr ⟨hi2, fun u hu su e2 => e ⟨u, hu, su, e2⟩⟩
          rw [hb] at this; cases this
        have ih := ih (i + 1) (by omega) (by omega) w l v6 hw (fun j => by
          rw [hl j]
          refine ⟨fun ⟨a, b⟩ => ⟨a, fun u hu su => ?_⟩, fun ⟨a, b⟩ => ⟨a, fun u hu su => b u (by omega) su⟩⟩
          by_cases e : u = i
          · subst e
            obtain ⟨v, hv, sv, ev⟩ := hex su
            rw [← ev]; exact b v hv sv
          · exact b u (by omega) su) (fun u hu su => by
          by_cases e : u = i
          · subst e
            obtain ⟨v, hv, sv, ev⟩ := hex su
            rw [← ev]; exact hA v hv sv
          · exact hA u (by omega) su) hB
        clear h1 h2
        apply hR 60
        simp (maxSteps := 10000000) (disch := omega) only [hS, hn, sm_eqs, hf, ha, sm_b0, Int.reduceToNat, ↓reduceIte, Nat.reduceEqDiff, true_and, and_true, List.length_nil, List.length_cons, Nat.reduceAdd, Nat.reduceLeDiff, Nat.zero_le, false_implies, true_implies, not_true_eq_false, not_false_eq_true, implies_true, Nat.reduceSub, Nat.reduceMul, Nat.reduceDiv, reduceCtorEq, tn_clamp, nI_t, tn_nI, nI_add, pk_mul, rS_gS, rS_gA, rS_gL, rA_gS, rA_gA, rA_gL, rL_gS, rL_gA, rL_gL, and_self, and_false, false_and, if_true, if_false, true_or, or_true, or_false, false_or, sm_in, eqI, sI_s, Int32.toInt_zero, Int.natCast_zero, Int.natCast_one, Int.cast_ofNat_Int, Int.reduceEq, Int.reduceLT, Int.reduceLE, Int.reduceNeg, Int.reduceNe, ne_eq, n_up, g_up, e_cat, fr_A, fr_O, fr_P, fr_L, sp_X10_classOf, hf3, bi_and, hb]
        clear hn hf ha hS hR
        repeat' (first | (refine And.intro ?_ ?_) | (intro _))
        all_goals (first | with_reducible assumption | omega | (exfalso; omega))
      | true =>
        obtain ⟨si, fi⟩ := (hl i).mp hb
        have hxb : ∀ x : Int32, (∀ j, j < 32 → bitI x j = dc (j < mN g ∧ sam c g (nI m) i q j)) → ∀ j, bitI x j = true ↔ (sM (nI m) j ∧ bF c g j q = bF c g i q) := fun x hx j => by
          by_cases h32 : j < 32
          · rw [hx j h32, dc_t]
            exact ⟨fun a => a.2, fun a => ⟨hbm j a.1, a⟩⟩
          · have e : ∀ y : Int32, bitI y j = false := fun y => BitVec.getLsbD_of_ge _ _ (by omega)
            rw [e]
            exact ⟨fun a => absurd a (by decide), fun a => absurd a.1 (by unfold sM; rw [e]; decide)⟩
        have c0 : ∀ x : Int32, (∀ j, j < 32 → bitI x j = dc (j < mN g ∧ sam c g (nI m) i q j)) → x.toInt = (m : Int) → K (some (.int (sI 0))) g := fun x hx e => by
          have hx := hxb x hx
          have e : x = nI m := Int32.toInt_inj.mp (by rw [e, nI_t (by omega)])
          subst e
          refine h1 (fun ⟨u, v, su, sv, hne⟩ => hne ?_)
          rw [((hx u).mp su).2, ((hx v).mp sv).2]
        have c1 : ∀ x : Int32, (∀ j, j < 32 → bitI x j = dc (j < mN g ∧ sam c g (nI m) i q j)) → ¬ x.toInt = (m : Int) → ∃ a k, a < m ∧ x = nI a ∧ k ≤ 12 ∧ rA g 79 a = nI k ∧ (∀ w', (w' = w ∧ k ≤ w ∨ w' = k ∧ w ≤ k) → J 8 [some (.ref 53), some (.int (nI m)), some (.int (nI q)), some (.int (nI w')), some (.int (l &&& (x ^^^ sI 0))), some (.int (nI (i + 1))), some (.int x)] [] g) := fun x hx e => by
          have hx := hxb x hx
          have hxm : x ≠ nI m := fun h9 => e (by rw [h9, nI_t (by omega)])
          obtain ⟨a, ha9, rfl⟩ := sub_lt h12 hmD (fun j hj => ((hx j).mp hj).1) hxm
          obtain ⟨k, k12, hk, hnd⟩ := hT a ha9
          have hsx : sM (nI a) = (fun z => sM (nI m) z ∧ bF c g z q = bF c g i q) := funext (fun z => propext (hx z))
          rw [hsx] at hnd
          have hprt : prt (bF c g) (sM (nI m)) q := by
            refine Classical.byContradiction (fun e2 => hxm (bi_ext (fun t _ => ?_)))
            cases hbt : bitI (nI m) t with
            | true => exact (hx t).mpr ⟨hbt, Classical.byContradiction (fun e3 => e2 ⟨t, i, hbt, si, e3⟩)⟩
            | false =>
              cases hbx : bitI (nI a) t with
              | false => rfl
              | true => have := ((hx t).mp hbx).1; unfold sM at this; rw [hbt] at this; cases this
          refine ⟨a, k, ha9, rfl, k12, hk, fun w' hw' => ih (i + 1) (by omega) (by omega) w' _ _ (by omega) (fun j => ?_) (fun u hu su => ⟨hprt, ?_⟩) (fun k2 hk2 => ?_)⟩
          · by_cases h32 : j < 32
            · rw [bi_land, bi_not h32, Bool.and_eq_true, Bool.not_eq_true', ← Bool.not_eq_true, hx j, hl j]
              constructor
              · rintro ⟨⟨a1, a2⟩, a3⟩
                refine ⟨a1, fun u hu su => ?_⟩
                by_cases e : u = i
                · rw [e]; exact fun e9 => a3 ⟨a1, e9.symm⟩
                · exact a2 u (by omega) su
              · rintro ⟨a1, a2⟩
                exact ⟨⟨a1, fun u hu su => a2 u (by omega) su⟩, fun a3 => a2 i (by omega) si a3.2.symm⟩
            · have e : ∀ y : Int32, bitI y j = false := fun y => BitVec.getLsbD_of_ge _ _ (by omega)
              rw [e]
              exact ⟨fun a => absurd a (by decide), fun a => absurd a.1 (by unfold sM; rw [e]; decide)⟩
          · by_cases e : bF c g u q = bF c g i q
            · rw [e]; exact nd_le (by omega) hnd.1
            · have hui : u < i := by
                refine Classical.byContradiction (fun e2 => e ?_)
                have : u = i := by omega
                rw [this]
              exact nd_le (by omega) (hA u hui su).2
          · rcases hw' with ⟨rfl, _⟩ | ⟨rfl, _⟩
            · exact hB k2 hk2
            · exact ⟨i, si, hnd.2 k2 hk2⟩
        clear ih h1 h2 hT hA hB hl hxb fi
        have hmi : i < mN g := by omega
        apply hR 60
        simp (maxSteps := 10000000) (disch := omega) only [hS, hn, sm_eqs, hf, ha, sm_b0, Int.reduceToNat, ↓reduceIte, Nat.reduceEqDiff, true_and, and_true, List.length_nil, List.length_cons, Nat.reduceAdd, Nat.reduceLeDiff, Nat.zero_le, false_implies, true_implies, not_true_eq_false, not_false_eq_true, implies_true, Nat.reduceSub, Nat.reduceMul, Nat.reduceDiv, reduceCtorEq, tn_clamp, nI_t, tn_nI, nI_add, pk_mul, rS_gS, rS_gA, rS_gL, rA_gS, rA_gA, rA_gL, rL_gS, rL_gA, rL_gL, and_self, and_false, false_and, if_true, if_false, true_or, or_true, or_false, false_or, sm_in, eqI, sI_s, Int32.toInt_zero, Int.natCast_zero, Int.natCast_one, Int.cast_ofNat_Int, Int.reduceEq, Int.reduceLT, Int.reduceLE, Int.reduceNeg, Int.reduceNe, ne_eq, n_up, g_up, e_cat, fr_A, fr_O, fr_P, fr_L, sp_X10_classOf, hf3, bi_and, hb, h, hfd, h12]
        clear hn hf ha hS hR
        refine ⟨fun _ => ⟨⟨by omega, by omega⟩, ⟨by omega, by omega⟩, hmi, fun x hx => ⟨c0 x hx, fun hne9 => ?_⟩⟩, fun a => absurd a (by omega)⟩
        obtain ⟨a, k, a1, rfl, k12, hk, hJ⟩ := c1 x hx hne9
        rw [tn_nI (by omega), hk, nI_t (show a < 2147483648 by omega), nI_t (show k < 2147483648 by omega)]
        exact ⟨⟨by omega, by omega⟩, fun b => ⟨⟨by omega, by omega⟩, hJ k (Or.inr ⟨rfl, by omega⟩)⟩, fun b => hJ w (Or.inl ⟨rfl, by omega⟩)⟩
  have h0 := loop _ 0 rfl (Nat.zero_le _) 0 (nI m) none (Nat.zero_le _) (fun j => ⟨fun a => ⟨a, fun u hu => by omega⟩, fun a => a.1⟩) (fun u hu => by omega) (fun k hk => by omega)
  clear h1 h2 loop
  apply hR 40
  simp (maxSteps := 10000000) (disch := omega) only [hS, hn, sm_eqs, hf, ha, sm_b0, Int.reduceToNat, ↓reduceIte, Nat.reduceEqDiff, true_and, and_true, List.length_nil, List.length_cons, Nat.reduceAdd, Nat.reduceLeDiff, Nat.zero_le, false_implies, true_implies, not_true_eq_false, not_false_eq_true, implies_true, Nat.reduceSub, Nat.reduceMul, Nat.reduceDiv, reduceCtorEq, tn_clamp, nI_t, tn_nI, nI_add, pk_mul, rS_gS, rS_gA, rS_gL, rA_gS, rA_gA, rA_gL, rL_gS, rL_gA, rL_gL, and_self, and_false, false_and, if_true, if_false, true_or, or_true, or_false, false_or, sm_in, eqI, sI_s, Int32.toInt_zero, Int.natCast_zero, Int.natCast_one, Int.cast_ofNat_Int, Int.reduceEq, Int.reduceLT, Int.reduceLE, Int.reduceNeg, Int.reduceNe, ne_eq, n_up, g_up, e_cat, fr_A, fr_O, fr_P, fr_L, sp_X10_classOf]
  exact h0
theorem ok_X10_worst (l : Launch) (c : sm_G) : sm_spok l lay sm_mt 3 206 (sp_X10_worst c) := Or.inr (Or.inr (Or.inr ⟨by decide, by decide, by
  rw [mt_206]
  exact sm_method (T := TX10_) v_cok v_lok v_ka v_tok_X10 mok_X10_worst rfl (by unfold sm_rk; simp) (wf_X10_worst c) (List.forall_mem_cons.mpr ⟨sm_spok_up (Nat.le_of_ble_eq_true rfl : 2 ≤ 2) (ok_X10_classOf l c), fun _ h => absurd h List.not_mem_nil⟩) (b_X10_worst c)⟩))
