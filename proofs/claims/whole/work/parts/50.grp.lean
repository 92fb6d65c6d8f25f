/-! The group's answers. -/
/-- two states that are alike but for scratch cells -/
def eqS (g h : sm_G) : Prop := (∀ p c, p ≠ 33 → p ≠ 34 → p ≠ 46 → rS h p c = rS g p c) ∧ (∀ a, a ≤ 31 ∨ a = 50 ∨ 53 ≤ a → rA h a = rA g a) ∧ (∀ a, a ≤ 31 ∨ 50 ≤ a → rL h a = rL g a)
theorem eqS_rf (g : sm_G) : eqS g g := ⟨fun _ _ _ _ _ => rfl, fun _ _ => rfl, fun _ _ => rfl⟩
theorem eqS_A {g h : sm_G} {k : Nat} {f : Nat → Int32} (e : eqS g h) (hk : 32 ≤ k ∧ k ≤ 49 ∨ k = 51 ∨ k = 52) : eqS g (gA h k f) :=
  ⟨e.1, fun a ha => by rw [rA_gA, if_neg (by omega)]; exact e.2.1 a ha, e.2.2⟩
theorem eqS_L {g h : sm_G} {k : Nat} {f : Nat → Int64} (e : eqS g h) (hk : 32 ≤ k ∧ k ≤ 49) : eqS g (gL h k f) :=
  ⟨e.1, e.2.1, fun a ha => by rw [rL_gL, if_neg (by omega)]; exact e.2.2 a ha⟩
theorem eqS_S {g h : sm_G} {p c : Nat} {v : Int32} (e : eqS g h) (hp : p = 33 ∨ p = 34 ∨ p = 46) : eqS g (gS h p c v) :=
  ⟨fun q d h1 h2 h3 => by rw [rS_gS, if_neg (by omega)]; exact e.1 q d h1 h2 h3, e.2.1, e.2.2⟩
theorem fr_st : (∀ (g : sm_G) (c : Nat) (v : Int32) (r t : Nat), stC (gS g 33 c v) r t = stC g r t) ∧ (∀ (g : sm_G) (c : Nat) (v : Int32) (r t : Nat), stC (gS g 34 c v) r t = stC g r t) ∧ (∀ (g : sm_G) (k : Nat) (f : Nat → Int64) (r t : Nat), stC (gL g k f) r t = stC g r t) ∧ (∀ (g : sm_G) (k : Nat) (f : Nat → Int32) (r t : Nat), 23 < k → k < 85 → stC (gA g k f) r t = stC g r t) := by
  refine ⟨fun g c v r t => ?_, fun g c v r t => ?_, fun g k f r t => ?_, fun g k f r t h h85 => ?_⟩
  · obtain ⟨n1, n2, n3, n4, n5⟩ := fr_n (g := g) (c := c) (v := v) oth_all.1
    have h2 := fr_S0 (g := g) (c := c) (v := v) oth_all.1
    simp only [stC, woC, n1, n3, rA_gS, h2]
  · obtain ⟨n1, n2, n3, n4, n5⟩ := fr_n (g := g) (c := c) (v := v) oth_all.2.1
    have h2 := fr_S0 (g := g) (c := c) (v := v) oth_all.2.1
    simp only [stC, woC, n1, n3, rA_gS, h2]
  · simp only [stC, fr_wo, fr_L]
  · unfold stC
    refine isum_congr (fun q _ => ?_)
    simp (disch := omega) only [fr_wo, fr_A]
theorem con_congr {F H : Nat → Int64} {n r i : Nat} (hr : r < n) (h : ∀ i, i < n → F i = H i) : con F n r i ↔ con H n r i := by
  have key : ∀ F H : Nat → Int64, (∀ i, i < n → F i = H i) → con F n r i → con H n r i := fun F H h hc P h1 h2 => hc P h1 (fun a b ha hb hp ht => h2 a b ha hb hp (by
    obtain ⟨t, t1, t2, t3⟩ := ht
    rw [h a ha] at t2; rw [h b hb] at t3
    exact ⟨t, t1, t2, t3⟩))
  exact ⟨key F H h, key H F (fun i hi => (h i hi).symm)⟩
theorem con_lt {F : Nat → Int64} {n r i : Nat} (hr : r < n) (h : con F n r i) : i < n := h (fun i => i < n) hr (fun _ b _ hb _ _ => hb)
theorem lst_congr {f h : Nat → Bool} : ∀ n, (∀ i, i < n → f i = h i) → lst f n = lst h n := by
  intro n
  induction n with
  | zero => intro _; rfl
  | succ n ih => intro e; simp only [lst]; rw [ih (fun i hi => e i (by omega)), e n (by omega)]
theorem gath_eq {g : sm_G} {r : Nat} {F : Nat → Int64} {ins : Int64} (hr : r < nR g) (hn : nR g ≤ 60) (hF : ∀ i, i < nR g → F i = gF g i) (hi : ∀ i, i < 64 → (bitL ins i = true ↔ con F (nR g) r i)) :
    lst (bitL ins) 60 = memL g r ∧ lst (bitL (shA F (bitL ins) 60)) 60 = gdL g r := by
  have hb : ∀ i, i < 60 → bitL ins i = dc (mbr g r i) := fun i hi2 => by
    have := (hi i (by omega)).trans (con_congr hr hF)
    cases hx : bitL ins i with
    | true => exact (dc_t.mpr (this.mp hx)).symm
    | false => exact (dc_f.mpr (fun h => by have := this.mpr h; rw [hx] at this; cases this)).symm
  refine ⟨lst_congr 60 hb, lst_congr 60 (fun t ht => ?_)⟩
  have hbs := bit_shA F (bitL ins) t 60
  have he : (∃ i, i < 60 ∧ bitL ins i = true ∧ bitL (F i) t = true) ↔ thg g r t := by
    constructor
    · rintro ⟨i, h1, h2, h3⟩
      rw [hb i h1] at h2
      have hm := dc_t.mp h2
      have := con_lt hr hm
      rw [hF i this] at h3
      exact ⟨i, hm, h3⟩
    · rintro ⟨i, h1, h2⟩
      have := con_lt hr h1
      refine ⟨i, by omega, by rw [hb i (by omega)]; exact dc_t.mpr h1, by rw [hF i this]; exact h2⟩
  cases hx : bitL (shA F (bitL ins) 60) t with
  | true => exact (dc_t.mpr (he.mp (hbs.mp hx))).symm
  | false => exact (dc_f.mpr (fun h => by have := hbs.mpr (he.mpr h); rw [hx] at this; cases this)).symm
/-- the report is open -/
def opn (g : sm_G) (r : Int32) : Prop := okR g r ∧ (rA g 14 (tn r)).toInt = 1
def sp_X9_group : sm_SP := fun as g K => match as with
  | [.ref p, .int r, .int w] => p = 0 ∧ iv g ∧ (¬ (opn g r ∧ 0 ≤ w.toInt ∧ w.toInt ≤ 1) → K (some (.int (sI 0))) g) ∧ (opn g r → w.toInt = 0 → ∀ h, eqS g h → K (some (.int (nI (memL g (tn r)).length))) h) ∧ (opn g r → w.toInt = 1 → ∀ h, eqS g h → K (some (.int (nI (gdL g (tn r)).length))) h)
  | _ => False
theorem wf_X9_group : sm_wf lay (yX9_group, cX9_group, 3, (some .int)) 3 false sp_X9_group := by
  intro as g K h
  simp only [sp_X9_group] at h
  split at h
  · exact ⟨Nat.le_of_ble_eq_true rfl, by simp, rfl, fun _ => by obtain rfl := h.1; exact ⟨0, _, 9, [3, 8, 11, 14, 17, 27, 33, 35, 48, 52, 53, 1], TX9, 12, rfl, rfl, rfl⟩⟩
  · exact h.elim
set_option maxHeartbeats 4000000 in
set_option maxRecDepth 100000 in
theorem b_X9_group : sm_body lay NX9_group 3 0 (sm_cl [(77, sp_X6_isOpen), (49, sp_X3_gather), (46, sp_X3_reportCount), (47, sp_X3_thingCount)]) sp_X9_group := by
  intro K J S hW as g hs
  have hn := n_X9_group
  have hf := fd_all
  have ha := ar_all
  generalize NX9_group = N at hn hW
  generalize lay = L at hf ha hW
  obtain ⟨hS, hR⟩ := hW
  simp only [sp_X9_group] at hs
  split at hs
  case h_2 => exact hs.elim
  simp only [e_args, sm_pad, List.length_cons, List.length_nil, Nat.reduceAdd, Nat.reduceSub, List.replicate_succ, List.replicate_zero, List.cons_append, List.nil_append]
  rename_i p r w
  obtain ⟨rfl, iv, h1, h2, h3⟩ := hs
  obtain ⟨zq, zr, zt, zo, zc⟩ := iv_z iv
  have hw := iv_wQ iv
  obtain ⟨l6, l9⟩ := iv_wL iv
  have hop := iv.2.1.2.2.2.2.2
  have hop2 : ∀ i, (rA g 14 i).toInt = 0 ∨ (rA g 14 i).toInt = 1 := fun i => by rcases hop i with e | e <;> rw [e] <;> decide
  have hzr := zr.2
  unfold opn at h1 h2 h3
  clear iv hop
  apply hR 60
  simp (maxSteps := 10000000) (disch := omega) only [hS, hn, sm_eqs, hf, ha, sm_b0, Int.reduceToNat, ↓reduceIte, Nat.reduceEqDiff, true_and, and_true, List.length_nil, List.length_cons, Nat.reduceAdd, Nat.reduceLeDiff, Nat.zero_le, false_implies, true_implies, not_true_eq_false, not_false_eq_true, implies_true, Nat.reduceSub, Nat.reduceMul, Nat.reduceDiv, reduceCtorEq, tn_clamp, nI_t, tn_nI, nI_add, pk_mul, rS_gS, rS_gA, rS_gL, rA_gS, rA_gA, rA_gL, rL_gS, rL_gA, rL_gL, and_self, and_false, false_and, if_true, if_false, true_or, or_true, or_false, false_or, sm_in, eqI, sI_s, Int32.toInt_zero, Int.natCast_zero, Int.natCast_one, Int.cast_ofNat_Int, Int.reduceEq, Int.reduceLT, Int.reduceLE, Int.reduceNeg, Int.reduceNe, ne_eq, n_up, g_up, e_cat, fr_A, fr_O, fr_P, fr_L, sp_X6_isOpen, sp_X3_gather, sp_X3_reportCount, sp_X3_thingCount, zq, zr, zt, zc, hw, l6, l9]
  clear hn hf ha hS hR
  refine ⟨hop2, fun ho => ⟨fun a => h1 (fun h => by have := h.2.1; omega), fun a => ⟨fun b => h1 (fun h => by have := h.2.2; omega), fun b => ⟨hop2, ho.1, ho.2, fun F ins M G' hF hi hM hG => ?_⟩⟩⟩, fun ho => h1 (fun h => ho h.1)⟩
  have hr : tn r < nR g := by have := ho.1; unfold okR at this; unfold tn; omega
  obtain ⟨g1, g2⟩ := gath_eq hr hzr hF hi
  rw [← lst_len, ← lst_len, g1, g2]
  have he : ∀ a b, eqS g (gS (gS (gL (gA (gA g 44 M) 45 G') 43 F) 33 306 a) 33 307 b) := fun a b => eqS_S (eqS_S (eqS_L (eqS_A (eqS_A (eqS_rf g) (by omega)) (by omega)) (by omega)) (by omega)) (by omega)
  exact ⟨fun w0 => h2 ho w0 _ (he _ _), fun w0 => h3 ho (by omega) _ (he _ _)⟩
theorem ok_X9_group (l : Launch) : sm_spok l lay sm_mt 6 137 sp_X9_group := Or.inr (Or.inr (Or.inr ⟨by decide, by decide, by
  rw [mt_137]
  exact sm_method (T := TX9_) v_cok v_lok v_ka v_tok_X9 mok_X9_group rfl (by unfold sm_rk; simp) wf_X9_group (List.forall_mem_cons.mpr ⟨sm_spok_up (Nat.le_of_ble_eq_true rfl : 2 ≤ 5) (ok_X6_isOpen l), List.forall_mem_cons.mpr ⟨sm_spok_up (Nat.le_of_ble_eq_true rfl : 5 ≤ 5) (ok_X3_gather l), List.forall_mem_cons.mpr ⟨sm_spok_up (Nat.le_of_ble_eq_true rfl : 1 ≤ 5) (ok_X3_reportCount l), List.forall_mem_cons.mpr ⟨sm_spok_up (Nat.le_of_ble_eq_true rfl : 1 ≤ 5) (ok_X3_thingCount l), fun _ h => absurd h List.not_mem_nil⟩⟩⟩⟩) b_X9_group⟩))
theorem eqS_n {g h : sm_G} (e : eqS g h) : nQ h = nQ g ∧ nR h = nR g ∧ nT h = nT g ∧ nO h = nO g ∧ nC h = nC g ∧ rS h 1 504 = rS g 1 504 ∧ rS h 12 602 = rS g 12 602 ∧ rS h 15 809 = rS g 15 809 ∧ rS h 15 810 = rS g 15 810 ∧ rS h 25 205 = rS g 25 205 ∧ rS h 0 911 = rS g 0 911 := by
  have q1 := e.1 1 504 (by omega) (by omega) (by omega)
  have q2 := e.1 12 602 (by omega) (by omega) (by omega)
  have q3 := e.1 15 809 (by omega) (by omega) (by omega)
  have q4 := e.1 15 810 (by omega) (by omega) (by omega)
  have q5 := e.1 25 205 (by omega) (by omega) (by omega)
  have q6 := e.1 0 911 (by omega) (by omega) (by omega)
  refine ⟨by simp only [nQ, q1], by simp only [nR, q2], by simp only [nT, q3], by simp only [nO, q4], by simp only [nC, q5], q1, q2, q3, q4, q5, q6⟩
theorem eqS_an {g h : sm_G} (e : eqS g h) : (∀ x q, anC h 6 x q = anC g 6 x q) ∧ (∀ x q, anC h 9 x q = anC g 9 x q) := by
  have a8 := e.2.1 8 (by omega)
  have a11 := e.2.1 11 (by omega)
  have a85 := e.2.1 85 (by omega)
  have a86 := e.2.1 86 (by omega)
  refine ⟨fun x q => ?_, fun x q => ?_⟩
  · unfold anC; simp only [Nat.reduceAdd, Nat.reduceDiv]; rw [a85, a8]
  · unfold anC; simp only [Nat.reduceAdd, Nat.reduceDiv]; rw [a86, a11]
theorem eqS_iv {g h : sm_G} (e : eqS g h) : iv h = iv g := by
  obtain ⟨n1, n2, n3, n4, n5, q1, q2, q3, q4, q5, q6⟩ := eqS_n e
  obtain ⟨an6, an9⟩ := eqS_an e
  have a2 := e.2.1 2 (by omega)
  have a3 := e.2.1 3 (by omega)
  have a4 := e.2.1 4 (by omega)
  have a7 := e.2.1 7 (by omega)
  have a10 := e.2.1 10 (by omega)
  have a14 := e.2.1 14 (by omega)
  have a16 := e.2.1 16 (by omega)
  have a17 := e.2.1 17 (by omega)
  have a18 := e.2.1 18 (by omega)
  have a19 := e.2.1 19 (by omega)
  have a21 := e.2.1 21 (by omega)
  have a22 := e.2.1 22 (by omega)
  have a23 := e.2.1 23 (by omega)
  have a26 := e.2.1 26 (by omega)
  have a27 := e.2.1 27 (by omega)
  have a28 := e.2.1 28 (by omega)
  have a29 := e.2.1 29 (by omega)
  have a30 := e.2.1 30 (by omega)
  have a8 := e.2.1 8 (by omega)
  have a11 := e.2.1 11 (by omega)
  have a85 := e.2.1 85 (by omega)
  have a86 := e.2.1 86 (by omega)
  simp only [iv, ivQ, ivR, ivT, ivC, zQ, zR, zT, zO, zC, wL, whyC, bgC, Nat.reduceAdd, Nat.reduceDiv, a8, a11, a85, a86, n1, n2, n3, n4, n5, q1, q2, q3, q4, q5, an6, an9, a2, a3, a4, a7, a10, a14, a16, a17, a18, a19, a21, a22, a23, a26, a27, a28, a29, a30]
theorem eqS_fit {g h : sm_G} (e : eqS g h) : (∀ r t, fitC h r t = fitC g r t) ∧ (∀ r t, stC h r t = stC g r t) ∧ (∀ i, gF h i = gF g i) := by
  obtain ⟨n1, n2, n3, n4, n5, q1, q2, q3, q4, q5, q6⟩ := eqS_n e
  obtain ⟨an6, an9⟩ := eqS_an e
  have a2 := e.2.1 2 (by omega)
  have a3 := e.2.1 3 (by omega)
  have a4 := e.2.1 4 (by omega)
  have a14 := e.2.1 14 (by omega)
  have a23 := e.2.1 23 (by omega)
  have l5 := e.2.2 5 (by omega)
  have f1 : ∀ r t, fitC h r t = fitC g r t := fun r t => by simp only [fitC, clC, agC, n1, an6, an9, a2, a3, l5]
  have ho : ∀ t q a n, hoC h t q a n = hoC g t q a n := by
    intro t q a n
    induction n with
    | zero => rfl
    | succ n ih => simp only [hoC]; rw [ih, a23, an9]
  refine ⟨f1, fun r t => by simp only [stC, woC, n1, n3, an6, an9, a4, ho], fun i => by simp only [gF, n3, a14, a23, f1]⟩
/-- the group is matched, in the state h -/
noncomputable def memF (g : sm_G) (r i : Nat) : Nat := (memL g r).getD i 0
noncomputable def gdF (g : sm_G) (r j : Nat) : Nat := (gdL g r).getD j 0
def rdy (g : sm_G) (r : Nat) (h : sm_G) : Prop := rS h 33 306 = nI (memL g r).length ∧ rS h 33 307 = nI (gdL g r).length ∧ rS h 34 108 = nI (memL g r).length ∧ rS h 34 109 = nI (gdL g r).length ∧ (∀ i, i < (memL g r).length → rA h 44 i = nI (memF g r i)) ∧ (∀ j, j < (gdL g r).length → rA h 45 j = nI (gdF g r j)) ∧
  bstW g (memL g r).length (gdL g r).length (memF g r) (gdF g r) (colH (rA h 41) (gdL g r).length) ∧ (∀ i j, i < (memL g r).length → colH (rA h 41) (gdL g r).length i = some j → rA h 36 ((i + 1) * 31 + j + 1) = stC g (memF g r i) (gdF g r j))
theorem hol_F {M : Nat → Int32} {l : List Nat} (h : hol M l) {i : Nat} (hi : i < l.length) : M i = nI (l.getD i 0) := by
  refine h i _ ?_
  rw [List.getD_eq_getElem?_getD, List.getElem?_eq_getElem hi]; rfl
theorem memF_mem {g : sm_G} {r i : Nat} (hi : i < (memL g r).length) : memF g r i < 60 ∧ mbr g r (memF g r i) := by
  have hm : memF g r i ∈ memL g r := by
    unfold memF; rw [List.getD_eq_getElem?_getD, List.getElem?_eq_getElem hi]; exact List.getElem_mem hi
  have := lst_lt (fun i => dc (mbr g r i)) 60 _ hm
  exact ⟨this.1, dc_t.mp this.2⟩
theorem gdF_mem {g : sm_G} {r j : Nat} (hj : j < (gdL g r).length) : gdF g r j < 60 ∧ thg g r (gdF g r j) := by
  have hm : gdF g r j ∈ gdL g r := by
    unfold gdF; rw [List.getD_eq_getElem?_getD, List.getElem?_eq_getElem hj]; exact List.getElem_mem hj
  have := lst_lt (fun t => dc (thg g r t)) 60 _ hm
  exact ⟨this.1, dc_t.mp this.2⟩
def sp_X9_matchGroup : sm_SP := fun as g K => match as with
  | [.ref p, .int r] => p = 0 ∧ iv g ∧ (¬ opn g r → K (some (.int (sI 0))) g) ∧ (opn g r → 10 < (memL g (tn r)).length ∨ 20 < (gdL g (tn r)).length → ∀ h, eqS g h → K (some (.int (sI 1))) h) ∧ (opn g r → ¬ (10 < (memL g (tn r)).length ∨ 20 < (gdL g (tn r)).length) → ∀ h, eqS g h → rdy g (tn r) h → K (some (.int (nI 0))) h)
  | _ => False
theorem wf_X9_matchGroup : sm_wf lay (yX9_matchGroup, cX9_matchGroup, 2, (some .int)) 2 false sp_X9_matchGroup := by
  intro as g K h
  simp only [sp_X9_matchGroup] at h
  split at h
  · exact ⟨Nat.le_of_ble_eq_true rfl, by simp, rfl, fun _ => by obtain rfl := h.1; exact ⟨0, _, 9, [3, 8, 11, 14, 17, 27, 33, 35, 48, 52, 53, 1], TX9, 12, rfl, rfl, rfl⟩⟩
  · exact h.elim
set_option maxHeartbeats 4000000 in
set_option maxRecDepth 100000 in
theorem b_X9_matchGroup : sm_body lay NX9_matchGroup 2 0 (sm_cl [(77, sp_X6_isOpen), (49, sp_X3_gather), (48, sp_X3_isTooLarge), (52, sp_X3_findBestWay)]) sp_X9_matchGroup := by
  intro K J S hW as g hs
  have hn := n_X9_matchGroup
  have hf := fd_all
  have ha := ar_all
  generalize NX9_matchGroup = N at hn hW
  generalize lay = L at hf ha hW
  obtain ⟨hS, hR⟩ := hW
  simp only [sp_X9_matchGroup] at hs
  split at hs
  case h_2 => exact hs.elim
  simp only [e_args, sm_pad, List.length_cons, List.length_nil, Nat.reduceAdd, Nat.reduceSub, List.replicate_succ, List.replicate_zero, List.cons_append, List.nil_append]
  rename_i p r
  obtain ⟨rfl, iv, h1, h2, h3⟩ := hs
  obtain ⟨zq, zr, zt, zo, zc⟩ := iv_z iv
  have hw := iv_wQ iv
  obtain ⟨l6, l9⟩ := iv_wL iv
  have hop := iv.2.1.2.2.2.2.2
  have hop2 : ∀ i, (rA g 14 i).toInt = 0 ∨ (rA g 14 i).toInt = 1 := fun i => by rcases hop i with e | e <;> rw [e] <;> decide
  have hzr := zr.2
  have hqw : ∀ q, q < nQ g → 1 ≤ (rA g 4 q).toInt ∧ (rA g 4 q).toInt ≤ 100 := fun q hq => (iv.1.2 q hq).2
  have hstb := fun r t => stC_bd zq zt hqw r t
  unfold opn at h1 h2 h3
  clear iv hop
  apply hR 60
  simp (maxSteps := 10000000) (disch := omega) only [hS, hn, sm_eqs, hf, ha, sm_b0, Int.reduceToNat, ↓reduceIte, Nat.reduceEqDiff, true_and, and_true, List.length_nil, List.length_cons, Nat.reduceAdd, Nat.reduceLeDiff, Nat.zero_le, false_implies, true_implies, not_true_eq_false, not_false_eq_true, implies_true, Nat.reduceSub, Nat.reduceMul, Nat.reduceDiv, reduceCtorEq, tn_clamp, nI_t, tn_nI, nI_add, pk_mul, rS_gS, rS_gA, rS_gL, rA_gS, rA_gA, rA_gL, rL_gS, rL_gA, rL_gL, and_self, and_false, false_and, if_true, if_false, true_or, or_true, or_false, false_or, sm_in, eqI, sI_s, Int32.toInt_zero, Int.natCast_zero, Int.natCast_one, Int.cast_ofNat_Int, Int.reduceEq, Int.reduceLT, Int.reduceLE, Int.reduceNeg, Int.reduceNe, ne_eq, n_up, g_up, e_cat, fr_A, fr_O, fr_P, fr_L, sp_X6_isOpen, sp_X3_gather, sp_X3_isTooLarge, sp_X3_findBestWay, zq, zr, zt, zc, hw, l6, l9, fr_S0 oth_all.1]
  clear hn hf ha hS hR
  refine ⟨hop2, fun ho => ⟨hop2, ho.1, ho.2, fun F ins M G' hF hi hM hG => ?_⟩, fun ho => h1 ho⟩
  have hr : tn r < nR g := by have := ho.1; unfold okR at this; unfold tn; omega
  obtain ⟨g1, g2⟩ := gath_eq hr hzr hF hi
  rw [← lst_len, ← lst_len, g1, g2]
  rw [g1] at hM; rw [g2] at hG
  have he : ∀ a b, eqS g (gS (gS (gL (gA (gA g 44 M) 45 G') 43 F) 33 306 a) 33 307 b) := fun a b => eqS_S (eqS_S (eqS_L (eqS_A (eqS_A (eqS_rf g) (by omega)) (by omega)) (by omega)) (by omega)) (by omega)
  have lm : (memL g (tn r)).length ≤ 60 := by unfold memL; rw [lst_len]; exact cnt_le _ _
  have lg : (gdL g (tn r)).length ≤ 60 := by unfold gdL; rw [lst_len]; exact cnt_le _ _
  rw [nI_t (show (memL g (tn r)).length < 2147483648 by omega), nI_t (show (gdL g (tn r)).length < 2147483648 by omega)]
  refine ⟨fun hx => h2 ho (by omega) _ (he _ _), fun hx => ⟨(memL g (tn r)).length, (gdL g (tn r)).length, memF g (tn r), gdF g (tn r), by omega, by omega, (nI_t (by omega)).symm, (nI_t (by omega)).symm, fun i hi => ⟨by rw [hol_F hM hi]; rfl, (memF_mem hi).1⟩, fun j hj => ⟨by rw [hol_F hG hj]; rfl, (gdF_mem hj).1⟩, hqw, fun wo gn cf hd rc ct rp cp sl hO2 hwI => ?_⟩⟩
  have hsx : ∀ a b, stC (gS (gS (gL (gA (gA g 44 M) 45 G') 43 F) 33 306 (nI (memL g (tn r)).length)) 33 307 (nI (gdL g (tn r)).length)) a b = stC g a b := fun a b => by
    rw [fr_st.1, fr_st.1, fr_st.2.2.1, fr_st.2.2.2 _ _ _ _ _ (by decide) (by decide), fr_st.2.2.2 _ _ _ _ _ (by decide) (by decide)]
  have hfx : ∀ i, i < (memL g (tn r)).length → F (memF g (tn r) i) = gF g (memF g (tn r) i) := fun i hi => hF _ (con_lt hr (memF_mem hi).2)
  have hwx : ∀ i j, i < (memL g (tn r)).length → j < 30 → (bitL (gF g (memF g (tn r) i)) (gdF g (tn r) j) = true ∧ j < (gdL g (tn r)).length → ct ((i + 1) * 31 + j + 1) = -((stC g (memF g (tn r) i) (gdF g (tn r) j)).toInt64 * lN 16679880978201 + lN ((20 - j) * 21 ^ (9 - i))) ∧ gn ((i + 1) * 31 + j + 1) = stC g (memF g (tn r) i) (gdF g (tn r) j)) ∧ (¬ (bitL (gF g (memF g (tn r) i)) (gdF g (tn r) j) = true ∧ j < (gdL g (tn r)).length) → ct ((i + 1) * 31 + j + 1) = if j < (gdL g (tn r)).length then lN 1152921504606846976 else lN 0) := fun i j hi hj => by
    have h9 := hwI i j hi hj
    simp only [hsx] at h9
    have h9 : (bitL (F (memF g (tn r) i)) (gdF g (tn r) j) = true ∧ j < (gdL g (tn r)).length ∧ (j < (gdL g (tn r)).length ∨ j = (gdL g (tn r)).length ∧ i < 0) → _) ∧ (¬ (bitL (F (memF g (tn r) i)) (gdF g (tn r) j) = true ∧ j < (gdL g (tn r)).length ∧ (j < (gdL g (tn r)).length ∨ j = (gdL g (tn r)).length ∧ i < 0)) → _) := h9
    rw [hfx i hi] at h9
    exact ⟨fun a => h9.1 ⟨a.1, a.2, Or.inl a.2⟩, fun a => h9.2 (fun b => a ⟨b.1, b.2.1⟩)⟩
  have hbst := hO_best (gn := gn) (g := g) (mem := memF g (tn r)) (gd := gdF g (tn r)) (by omega) (by omega) hstb hO2 (fun i j hi hj => ⟨fun a => ((hwx i j hi hj).1 a).1, (hwx i j hi hj).2⟩)
  refine h3 ho (by omega) _ ?_ ⟨rfl, rfl, rfl, rfl, fun i hi => hol_F hM hi, fun j hj => hol_F hG hj, hbst, fun i j hi hc => ?_⟩
  · exact eqS_S (eqS_S (eqS_S (eqS_S (eqS_S (eqS_L (eqS_L (eqS_L (eqS_L (eqS_L (eqS_A (eqS_A (eqS_A (eqS_A (eqS_A (eqS_A (eqS_A (eqS_rf g) (by omega)) (by omega)) (by omega)) (by omega)) (by omega)) (by omega)) (by omega)) (by omega)) (by omega)) (by omega)) (by omega)) (by omega)) (by omega)) (by omega)) (by omega)) (by omega)) (by omega)
  · have := hbst.1.1 i j hi hc
    exact ((hwx i j hi (by omega)).1 ⟨this.2, this.1⟩).2
theorem ok_X9_matchGroup (l : Launch) : sm_spok l lay sm_mt 6 136 sp_X9_matchGroup := Or.inr (Or.inr (Or.inr ⟨by decide, by decide, by
  rw [mt_136]
  exact sm_method (T := TX9_) v_cok v_lok v_ka v_tok_X9 mok_X9_matchGroup rfl (by unfold sm_rk; simp) wf_X9_matchGroup (List.forall_mem_cons.mpr ⟨sm_spok_up (Nat.le_of_ble_eq_true rfl : 2 ≤ 5) (ok_X6_isOpen l), List.forall_mem_cons.mpr ⟨sm_spok_up (Nat.le_of_ble_eq_true rfl : 5 ≤ 5) (ok_X3_gather l), List.forall_mem_cons.mpr ⟨sm_spok_up (Nat.le_of_ble_eq_true rfl : 1 ≤ 5) (ok_X3_isTooLarge l), List.forall_mem_cons.mpr ⟨sm_spok_up (Nat.le_of_ble_eq_true rfl : 5 ≤ 5) (ok_X3_findBestWay l), fun _ h => absurd h List.not_mem_nil⟩⟩⟩⟩) b_X9_matchGroup⟩))
theorem lst_idx {x : Nat} : ∀ {l : List Nat}, x ∈ l → ∃ i, i < l.length ∧ l.getD i 0 = x ∧ ∀ k, k < i → l.getD k 0 ≠ x := by
  intro l
  induction l with
  | nil => intro h; cases h
  | cons y l ih =>
    intro h
    by_cases e : y = x
    · exact ⟨0, by simp, by simpa using e, fun k hk => by omega⟩
    · rcases List.mem_cons.mp h with h | h
      · exact absurd h.symm e
      · obtain ⟨i, i1, i2, i3⟩ := ih h
        refine ⟨i + 1, by simp; exact i1, by simpa using i2, fun k hk => ?_⟩
        cases k with
        | zero => simpa using e
        | succ k => have := i3 k (by omega); simpa using this
theorem mem_idx {g : sm_G} {r : Nat} (hr : r < 60) : ∃ i, i < (memL g r).length ∧ memF g r i = r ∧ ∀ k, k < i → memF g r k ≠ r := by
  have hm : ∀ n, r < n → r ∈ lst (fun i => dc (mbr g r i)) n := by
    intro n
    induction n with
    | zero => intro h; omega
    | succ n ih =>
      intro h
      simp only [lst]
      by_cases e : r = n
      · subst e
        rw [if_pos (dc_t.mpr (show mbr g r r from fun P hP _ => hP))]; simp
      · have := ih (by omega)
        split
        · exact List.mem_append.mpr (Or.inl this)
        · exact this
  exact lst_idx (hm 60 hr)
theorem rdy_co {g h : sm_G} {r : Nat} (hl : (gdL g r).length < 2147483648) (e : rdy g r h) (i : Nat) : coC h i = colH (rA h 41) (gdL g r).length i := by
  unfold coC colH; rw [e.2.2.2.1, tn_nI hl]
theorem rdy_sum {g h : sm_G} {r : Nat} (hl : (gdL g r).length < 2147483648) (hst : ∀ r t, 0 ≤ (stC g r t).toInt ∧ (stC g r t).toInt ≤ 19200) (e : rdy g r h) : ∀ n, n ≤ (memL g r).length → isum (fun i => match coC h i with | some j => rA h 36 ((i + 1) * 31 + j + 1) | none => nI 0) n = nI (wss g (memF g r) (gdF g r) (colH (rA h 41) (gdL g r).length) n) := by
  intro n
  induction n with
  | zero => intro _; rfl
  | succ n ih =>
    intro hn
    simp only [isum, wss]
    rw [ih (by omega), rdy_co hl e]
    cases hc : colH (rA h 41) (gdL g r).length n with
    | none => simp only [wst, hc]; rw [nI_add]
    | some j =>
      simp only [wst, hc]
      rw [e.2.2.2.2.2.2.2 n j (by omega) hc]
      have hx := hst (memF g r n) (gdF g r j)
      rw [show stC g (memF g r n) (gdF g r j) = nI (tn (stC g (memF g r n) (gdF g r j))) from nI_tn hx.1, nI_add]
      rw [tn_nI (by unfold tn; omega)]
def sp_X9_best : sm_SP := fun as g K => match as with
  | [.ref p, .int r] => p = 0 ∧ iv g ∧ (¬ opn g r → K (some (.int (sI 0))) g) ∧ (opn g r → 10 < (memL g (tn r)).length ∨ 20 < (gdL g (tn r)).length → ∀ h, eqS g h → K (some (.int (sI 1))) h) ∧
      (opn g r → ¬ (10 < (memL g (tn r)).length ∨ 20 < (gdL g (tn r)).length) → ∀ W i h, bstW g (memL g (tn r)).length (gdL g (tn r)).length (memF g (tn r)) (gdF g (tn r)) W → i < (memL g (tn r)).length → memF g (tn r) i = tn r → eqS g h → K (some (.int (oI ((W i).map (gdF g (tn r)))))) h)
  | _ => False
theorem wf_X9_best : sm_wf lay (yX9_best, cX9_best, 3, (some .int)) 2 false sp_X9_best := by
  intro as g K h
  simp only [sp_X9_best] at h
  split at h
  · exact ⟨Nat.le_of_ble_eq_true rfl, by simp, rfl, fun _ => by obtain rfl := h.1; exact ⟨0, _, 9, [3, 8, 11, 14, 17, 27, 33, 35, 48, 52, 53, 1], TX9, 12, rfl, rfl, rfl⟩⟩
  · exact h.elim
set_option maxHeartbeats 4000000 in
set_option maxRecDepth 100000 in
theorem b_X9_best : sm_body lay NX9_best 3 0 (sm_cl [(136, sp_X9_matchGroup), (54, sp_X3_givenTo)]) sp_X9_best := by
  intro K J S hW as g hs
  have hn := n_X9_best
  have hf := fd_all
  have ha := ar_all
  generalize NX9_best = N at hn hW
  generalize lay = L at hf ha hW
  obtain ⟨hS, hR⟩ := hW
  simp only [sp_X9_best] at hs
  split at hs
  case h_2 => exact hs.elim
  simp only [e_args, sm_pad, List.length_cons, List.length_nil, Nat.reduceAdd, Nat.reduceSub, List.replicate_succ, List.replicate_zero, List.cons_append, List.nil_append]
  rename_i p r
  obtain ⟨rfl, iv, h1, h2, h3⟩ := hs
  have hzr := iv.2.1.2.2.2.2.1.2
  apply hR 60
  simp (maxSteps := 10000000) (disch := omega) only [hS, hn, sm_eqs, hf, ha, sm_b0, Int.reduceToNat, ↓reduceIte, Nat.reduceEqDiff, true_and, and_true, List.length_nil, List.length_cons, Nat.reduceAdd, Nat.reduceLeDiff, Nat.zero_le, false_implies, true_implies, not_true_eq_false, not_false_eq_true, implies_true, Nat.reduceSub, Nat.reduceMul, Nat.reduceDiv, reduceCtorEq, tn_clamp, nI_t, tn_nI, nI_add, pk_mul, rS_gS, rS_gA, rS_gL, rA_gS, rA_gA, rA_gL, rL_gS, rL_gA, rL_gL, and_self, and_false, false_and, if_true, if_false, true_or, or_true, or_false, false_or, sm_in, eqI, sI_s, Int32.toInt_zero, Int.natCast_zero, Int.natCast_one, Int.cast_ofNat_Int, Int.reduceEq, Int.reduceLT, Int.reduceLE, Int.reduceNeg, Int.reduceNe, ne_eq, n_up, g_up, e_cat, fr_A, fr_O, fr_P, fr_L, sp_X9_matchGroup, sp_X3_givenTo, iv]
  clear hn hf ha hS hR
  refine ⟨h1, h2, fun ho hx h he hr => ?_⟩
  have hrr : 0 ≤ r.toInt ∧ r.toInt < 60 := okR_60 iv.2.1.2.2.2.2.1 ho.1
  obtain ⟨i, i1, i2, i3⟩ := mem_idx (g := g) (r := tn r) (by unfold tn; omega)
  refine ⟨(memL g (tn r)).length, (gdL g (tn r)).length, memF g (tn r), gdF g (tn r), i, by omega, by omega, by rw [hr.1], by rw [hr.2.1], by rw [hr.2.2.2.1], fun i hi => ⟨by rw [hr.2.2.2.2.1 i hi], (memF_mem hi).1⟩, fun j hj => by rw [hr.2.2.2.2.2.1 j hj], i1, by rw [i2, ← nI_tn hrr.1], fun k hk => by rw [i2]; exact i3 k hk, ?_⟩
  rw [rdy_co (by omega) hr]
  exact h3 ho hx _ i h hr.2.2.2.2.2.2.1 i1 i2 he
theorem ok_X9_best (l : Launch) : sm_spok l lay sm_mt 7 133 sp_X9_best := Or.inr (Or.inr (Or.inr ⟨by decide, by decide, by
  rw [mt_133]
  exact sm_method (T := TX9_) v_cok v_lok v_ka v_tok_X9 mok_X9_best rfl (by unfold sm_rk; simp) wf_X9_best (List.forall_mem_cons.mpr ⟨sm_spok_up (Nat.le_of_ble_eq_true rfl : 6 ≤ 6) (ok_X9_matchGroup l), List.forall_mem_cons.mpr ⟨sm_spok_up (Nat.le_of_ble_eq_true rfl : 2 ≤ 6) (ok_X3_givenTo l), fun _ h => absurd h List.not_mem_nil⟩⟩) b_X9_best⟩))
def sp_X9_sum : sm_SP := fun as g K => match as with
  | [.ref p, .int r] => p = 0 ∧ iv g ∧ (¬ opn g r → K (some (.int (sI 0))) g) ∧ (opn g r → 10 < (memL g (tn r)).length ∨ 20 < (gdL g (tn r)).length → ∀ h, eqS g h → K (some (.int (sI 1))) h) ∧
      (opn g r → ¬ (10 < (memL g (tn r)).length ∨ 20 < (gdL g (tn r)).length) → ∀ W h, bstW g (memL g (tn r)).length (gdL g (tn r)).length (memF g (tn r)) (gdF g (tn r)) W → eqS g h → K (some (.int (nI (wss g (memF g (tn r)) (gdF g (tn r)) W (memL g (tn r)).length)))) h)
  | _ => False
theorem wf_X9_sum : sm_wf lay (yX9_sum, cX9_sum, 3, (some .int)) 2 false sp_X9_sum := by
  intro as g K h
  simp only [sp_X9_sum] at h
  split at h
  · exact ⟨Nat.le_of_ble_eq_true rfl, by simp, rfl, fun _ => by obtain rfl := h.1; exact ⟨0, _, 9, [3, 8, 11, 14, 17, 27, 33, 35, 48, 52, 53, 1], TX9, 12, rfl, rfl, rfl⟩⟩
  · exact h.elim
set_option maxHeartbeats 4000000 in
set_option maxRecDepth 100000 in
theorem b_X9_sum : sm_body lay NX9_sum 3 0 (sm_cl [(136, sp_X9_matchGroup), (53, sp_X3_strengthSum)]) sp_X9_sum := by
  intro K J S hW as g hs
  have hn := n_X9_sum
  have hf := fd_all
  have ha := ar_all
  generalize NX9_sum = N at hn hW
  generalize lay = L at hf ha hW
  obtain ⟨hS, hR⟩ := hW
  simp only [sp_X9_sum] at hs
  split at hs
  case h_2 => exact hs.elim
  simp only [e_args, sm_pad, List.length_cons, List.length_nil, Nat.reduceAdd, Nat.reduceSub, List.replicate_succ, List.replicate_zero, List.cons_append, List.nil_append]
  rename_i p r
  obtain ⟨rfl, iv, h1, h2, h3⟩ := hs
  have hqw : ∀ q, q < nQ g → 1 ≤ (rA g 4 q).toInt ∧ (rA g 4 q).toInt ≤ 100 := fun q hq => (iv.1.2 q hq).2
  have hstb := fun r t => stC_bd iv.1.1 iv.2.2.1.1 hqw r t
  apply hR 60
  simp (maxSteps := 10000000) (disch := omega) only [hS, hn, sm_eqs, hf, ha, sm_b0, Int.reduceToNat, ↓reduceIte, Nat.reduceEqDiff, true_and, and_true, List.length_nil, List.length_cons, Nat.reduceAdd, Nat.reduceLeDiff, Nat.zero_le, false_implies, true_implies, not_true_eq_false, not_false_eq_true, implies_true, Nat.reduceSub, Nat.reduceMul, Nat.reduceDiv, reduceCtorEq, tn_clamp, nI_t, tn_nI, nI_add, pk_mul, rS_gS, rS_gA, rS_gL, rA_gS, rA_gA, rA_gL, rL_gS, rL_gA, rL_gL, and_self, and_false, false_and, if_true, if_false, true_or, or_true, or_false, false_or, sm_in, eqI, sI_s, Int32.toInt_zero, Int.natCast_zero, Int.natCast_one, Int.cast_ofNat_Int, Int.reduceEq, Int.reduceLT, Int.reduceLE, Int.reduceNeg, Int.reduceNe, ne_eq, n_up, g_up, e_cat, fr_A, fr_O, fr_P, fr_L, sp_X9_matchGroup, sp_X3_strengthSum, iv]
  clear hn hf ha hS hR
  refine ⟨h1, h2, fun ho hx h he hr => ⟨(memL g (tn r)).length, (gdL g (tn r)).length, by omega, by omega, by rw [hr.1], by rw [hr.2.2.1], by rw [hr.2.2.2.1], ?_⟩⟩
  have q := h3 ho hx _ h hr.2.2.2.2.2.2.1 he
  rw [← rdy_sum (by omega) hstb hr _ (Nat.le_refl _)] at q
  exact q
theorem ok_X9_sum (l : Launch) : sm_spok l lay sm_mt 7 134 sp_X9_sum := Or.inr (Or.inr (Or.inr ⟨by decide, by decide, by
  rw [mt_134]
  exact sm_method (T := TX9_) v_cok v_lok v_ka v_tok_X9 mok_X9_sum rfl (by unfold sm_rk; simp) wf_X9_sum (List.forall_mem_cons.mpr ⟨sm_spok_up (Nat.le_of_ble_eq_true rfl : 6 ≤ 6) (ok_X9_matchGroup l), List.forall_mem_cons.mpr ⟨sm_spok_up (Nat.le_of_ble_eq_true rfl : 3 ≤ 6) (ok_X3_strengthSum l), fun _ h => absurd h List.not_mem_nil⟩⟩) b_X9_sum⟩))
noncomputable def alsC (g : sm_G) (r t0 : Nat) : Nat := cnt (fun t => dc (t < nT g ∧ (rA g 23 t).toInt = -1 ∧ fitC g r t ∧ (stC g r t0).toInt ≤ (stC g r t).toInt)) 60
def sp_X9_also : sm_SP := fun as g K => match as with
  | [.ref p, .int r] => p = 0 ∧ iv g ∧ (¬ opn g r → K (some (.int (sI 0))) g) ∧ (opn g r → 10 < (memL g (tn r)).length ∨ 20 < (gdL g (tn r)).length → ∀ h, eqS g h → K (some (.int (sI 1))) h) ∧
      (opn g r → ¬ (10 < (memL g (tn r)).length ∨ 20 < (gdL g (tn r)).length) → ∀ W i h, bstW g (memL g (tn r)).length (gdL g (tn r)).length (memF g (tn r)) (gdF g (tn r)) W → i < (memL g (tn r)).length → memF g (tn r) i = tn r → eqS g h → (W i = none → K (some (.int (sI 0))) h) ∧ (∀ j, W i = some j → K (some (.int (nI (alsC g (tn r) (gdF g (tn r) j))))) h))
  | _ => False
theorem wf_X9_also : sm_wf lay (yX9_also, cX9_also, 4, (some .int)) 2 false sp_X9_also := by
  intro as g K h
  simp only [sp_X9_also] at h
  split at h
  · exact ⟨Nat.le_of_ble_eq_true rfl, by simp, rfl, fun _ => by obtain rfl := h.1; exact ⟨0, _, 9, [3, 8, 11, 14, 17, 27, 33, 35, 48, 52, 53, 1], TX9, 12, rfl, rfl, rfl⟩⟩
  · exact h.elim
set_option maxHeartbeats 4000000 in
set_option maxRecDepth 100000 in
theorem b_X9_also : sm_body lay NX9_also 4 0 (sm_cl [(136, sp_X9_matchGroup), (54, sp_X3_givenTo), (62, sp_X4_strengthOf), (63, sp_X4_countAsStrong)]) sp_X9_also := by
  intro K J S hW as g hs
  have hn := n_X9_also
  have hf := fd_all
  have ha := ar_all
  generalize NX9_also = N at hn hW
  generalize lay = L at hf ha hW
  obtain ⟨hS, hR⟩ := hW
  simp only [sp_X9_also] at hs
  split at hs
  case h_2 => exact hs.elim
  simp only [e_args, sm_pad, List.length_cons, List.length_nil, Nat.reduceAdd, Nat.reduceSub, List.replicate_succ, List.replicate_zero, List.cons_append, List.nil_append]
  rename_i p r
  obtain ⟨rfl, iv, h1, h2, h3⟩ := hs
  apply hR 60
  simp (maxSteps := 10000000) (disch := omega) only [hS, hn, sm_eqs, hf, ha, sm_b0, Int.reduceToNat, ↓reduceIte, Nat.reduceEqDiff, true_and, and_true, List.length_nil, List.length_cons, Nat.reduceAdd, Nat.reduceLeDiff, Nat.zero_le, false_implies, true_implies, not_true_eq_false, not_false_eq_true, implies_true, Nat.reduceSub, Nat.reduceMul, Nat.reduceDiv, reduceCtorEq, tn_clamp, nI_t, tn_nI, nI_add, pk_mul, rS_gS, rS_gA, rS_gL, rA_gS, rA_gA, rA_gL, rL_gS, rL_gA, rL_gL, and_self, and_false, false_and, if_true, if_false, true_or, or_true, or_false, false_or, sm_in, eqI, sI_s, Int32.toInt_zero, Int.natCast_zero, Int.natCast_one, Int.cast_ofNat_Int, Int.reduceEq, Int.reduceLT, Int.reduceLE, Int.reduceNeg, Int.reduceNe, ne_eq, n_up, g_up, e_cat, fr_A, fr_O, fr_P, fr_L, sp_X9_matchGroup, sp_X3_givenTo, sp_X4_strengthOf, sp_X4_countAsStrong, iv]
  clear hn hf ha hS hR
  refine ⟨h1, h2, fun ho hx h he hr => ?_⟩
  have hrr : 0 ≤ r.toInt ∧ r.toInt < 60 := okR_60 iv.2.1.2.2.2.2.1 ho.1
  have ivh := Eq.mpr (eqS_iv he) iv
  have wh := iv_wQ ivh
  obtain ⟨lh6, lh9⟩ := iv_wL ivh
  have zth := ivh.2.2.1.1
  have hzt := iv.2.2.1.1.2
  obtain ⟨i, i1, i2, i3⟩ := mem_idx (g := g) (r := tn r) (by unfold tn; omega)
  refine ⟨(memL g (tn r)).length, (gdL g (tn r)).length, memF g (tn r), gdF g (tn r), i, by omega, by omega, by rw [hr.1], by rw [hr.2.1], by rw [hr.2.2.2.1], fun i hi => ⟨by rw [hr.2.2.2.2.1 i hi], (memF_mem hi).1⟩, fun j hj => by rw [hr.2.2.2.2.2.1 j hj], i1, by rw [i2, ← nI_tn hrr.1], fun k hk => by rw [i2]; exact i3 k hk, ?_⟩
  rw [rdy_co (by omega) hr]
  have hb := hr.2.2.2.2.2.2.1
  cases hc : colH (rA h 41) (gdL g (tn r)).length i with
  | none => exact ⟨fun _ => (h3 ho hx _ i h hb i1 i2 he).1 hc, fun h9 => absurd sI_s.1 h9⟩
  | some j =>
    obtain ⟨j1, j2⟩ := hb.1.1 i j i1 hc
    have hg := gdF_mem j1
    rw [i2] at j2
    have hfit : fitC g (tn r) (gdF g (tn r) j) := by
      unfold gF at j2
      rw [if_pos ho.2, bit_sOf _ _ _ (by omega), Bool.and_eq_true] at j2
      exact (dc_t.mp j2.2).2
    have hfh : fitC h (tn r) (gdF g (tn r) j) := by rw [(eqS_fit he).1]; exact hfit
    rw [show oI (Option.map (gdF g (tn r)) (some j)) = nI (gdF g (tn r) j) from rfl, nI_t (by omega), tn_nI (by omega)]
    refine ⟨fun h9 => absurd h9 (by omega), fun _ => ⟨wh, zth, lh6, lh9, hrr, by omega, fun hnf => absurd hfh hnf, fun _ f hf9 => ⟨wh, zth, lh6, lh9, hrr, fun f1 => ?_⟩⟩⟩
    have q := (h3 ho hx _ i (gA h 32 f1) hb i1 i2 (eqS_A he (by omega))).2 j hc
    unfold alsC at q
    simp only [(fr_w h f).2, (eqS_n he).2.2.1, he.2.1 23 (by omega), (eqS_fit he).1, (eqS_fit he).2.1]
    with_reducible exact q
theorem ok_X9_also (l : Launch) : sm_spok l lay sm_mt 7 135 sp_X9_also := Or.inr (Or.inr (Or.inr ⟨by decide, by decide, by
  rw [mt_135]
  exact sm_method (T := TX9_) v_cok v_lok v_ka v_tok_X9 mok_X9_also rfl (by unfold sm_rk; simp) wf_X9_also (List.forall_mem_cons.mpr ⟨sm_spok_up (Nat.le_of_ble_eq_true rfl : 6 ≤ 6) (ok_X9_matchGroup l), List.forall_mem_cons.mpr ⟨sm_spok_up (Nat.le_of_ble_eq_true rfl : 2 ≤ 6) (ok_X3_givenTo l), List.forall_mem_cons.mpr ⟨sm_spok_up (Nat.le_of_ble_eq_true rfl : 5 ≤ 6) (ok_X4_strengthOf l), List.forall_mem_cons.mpr ⟨sm_spok_up (Nat.le_of_ble_eq_true rfl : 6 ≤ 6) (ok_X4_countAsStrong l), fun _ h => absurd h List.not_mem_nil⟩⟩⟩⟩) b_X9_also⟩))
