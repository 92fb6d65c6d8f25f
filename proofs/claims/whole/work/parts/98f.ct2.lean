def lay7 : List ((Nat × List Nat) ⊕ (Nat × Nat)) := [.inl (7, [3, 4, 5]), .inr (1, 60), .inr (1, 60), .inr (1, 960)]
theorem lok7 : sm_lok lay7 := by
  have h : lay7.all v_lkb = true := by decide +kernel
  intro p ci k ds hp hd
  have h1 := List.all_eq_true.mp h _ (List.mem_of_getElem? hp)
  simp only [v_lkb] at h1
  split at h1
  · cases h1
  · rename_i q hq
    have h2 := List.all_eq_true.mp h1 k (List.mem_range.mpr (List.getElem?_eq_some_iff.mp hd).1)
    rw [hd] at h2
    simp at h2
    exact ⟨q.1, q.2.1, q.2.2, hq, h2.1, h2.2⟩
theorem ka7 : ∀ (pl ty n : Nat), lay7[pl]? = some (.inr (ty, n)) → ty = 1 ∨ ty = 2 ∨ ty = 3 := by
  have h : lay7.all (fun x => match x with | .inl _ => true | .inr (ty, _) => ty == 1 || ty == 2 || ty == 3) = true := by decide +kernel
  intro pl ty n hp
  have := List.all_eq_true.mp h _ (List.mem_of_getElem? hp)
  simpa [or_assoc] using this
def ct_g0 : sm_G := (fun _ _ => 0, fun _ _ => 0, fun _ _ => 0)
set_option maxHeartbeats 4000000 in
set_option maxRecDepth 100000 in
theorem lp_X7 (K : Option Value → sm_G → Prop) (J : Nat → sm_Lo → List Value → sm_G → Prop) (S : Nat → Nat → sm_Lo → List Value → sm_G → Prop) (hW : sm_walk lay7 NX7_init (sm_cl []) none 4 K J S) (hs : ∀ f h, (∀ x, x < 60 → f x = sI 0) → (∀ x, x < 60 → h x = nI 0) → K none (gA (gA ct_g0 1 f) 2 h)) : J 29 [some (.ref 0), none] [] ct_g0 := by
  have hn := n_X7_init
  have hf : sm_fd lay7 0 700 = 3 ∧ sm_fd lay7 0 701 = 4 ∧ sm_fd lay7 0 702 = 5 := ⟨rfl, rfl, rfl⟩
  have ha : sm_ar lay7 1 = (1, 60) ∧ sm_ar lay7 2 = (1, 60) ∧ sm_ar lay7 3 = (1, 960) := ⟨rfl, rfl, rfl⟩
  generalize NX7_init = N at hn hW
  generalize lay7 = L at hf ha hW
  obtain ⟨hS, hR⟩ := hW
  have loop : ∀ m x, m = 60 - x → x ≤ 60 → ∀ f h, (∀ y, y < x → f y = sI 0) → (∀ y, y < x → h y = nI 0) → J 31 [some (.ref 0), some (.int (nI x))] [] (gA (gA ct_g0 1 f) 2 h) := by
    intro m
    induction m with
    | zero =>
      intro x hm hx f h hfx hhx
      obtain rfl : x = 60 := by omega
      have hs := hs f h hfx hhx
      apply hR 20
      simp (maxSteps := 10000000) (disch := omega) only [hS, hn, sm_eqs, hf, ha, sm_b0, Int.reduceToNat, ↓reduceIte, Nat.reduceEqDiff, true_and, and_true, List.length_nil, List.length_cons, Nat.reduceAdd, Nat.reduceLeDiff, Nat.zero_le, false_implies, true_implies, not_true_eq_false, not_false_eq_true, implies_true, Nat.reduceSub, Nat.reduceMul, Nat.reduceDiv, reduceCtorEq, tn_clamp, nI_t, tn_nI, nI_add, pk_mul, rS_gS, rS_gA, rS_gL, rA_gS, rA_gA, rA_gL, rL_gS, rL_gA, rL_gL, and_self, and_false, false_and, if_true, if_false, true_or, or_true, or_false, false_or, sm_in, eqI, sI_s, Int32.toInt_zero, Int.natCast_zero, Int.natCast_one, Int.cast_ofNat_Int, Int.reduceEq, Int.reduceLT, Int.reduceLE, Int.reduceNeg, Int.reduceNe, ne_eq, n_up, g_up, e_cat]
      repeat' (first | (refine And.intro ?_ ?_) | (intro _))
      all_goals (first | with_reducible assumption | omega | (exfalso; omega))
    | succ m ih =>
      intro x hm hx f h hfx hhx
      have ih := ih (x + 1) (by omega) (by omega) (upd f x (sI 0)) (upd h x (nI 0)) (fun y hy => by
        by_cases e : y = x
        · rw [e, pk_us]
        · rw [pk_un e]; exact hfx y (by omega)) (fun y hy => by
        by_cases e : y = x
        · rw [e, pk_us]
        · rw [pk_un e]; exact hhx y (by omega))
      clear hs
      have e9 : gA (gA (gA ct_g0 1 f) 2 h) 1 (upd f x (sI 0)) = gA (gA ct_g0 1 (upd f x (sI 0))) 2 h := by rw [fr_S.2.2.2.1 _ 2 h 1 _ (by decide), g_up.2.1]
      apply hR 30
      simp (maxSteps := 10000000) (disch := omega) only [hS, hn, sm_eqs, hf, ha, sm_b0, Int.reduceToNat, ↓reduceIte, Nat.reduceEqDiff, true_and, and_true, List.length_nil, List.length_cons, Nat.reduceAdd, Nat.reduceLeDiff, Nat.zero_le, false_implies, true_implies, not_true_eq_false, not_false_eq_true, implies_true, Nat.reduceSub, Nat.reduceMul, Nat.reduceDiv, reduceCtorEq, tn_clamp, nI_t, tn_nI, nI_add, pk_mul, rS_gS, rS_gA, rS_gL, rA_gS, rA_gA, rA_gL, rL_gS, rL_gA, rL_gL, and_self, and_false, false_and, if_true, if_false, true_or, or_true, or_false, false_or, sm_in, eqI, sI_s, Int32.toInt_zero, Int.natCast_zero, Int.natCast_one, Int.cast_ofNat_Int, Int.reduceEq, Int.reduceLT, Int.reduceLE, Int.reduceNeg, Int.reduceNe, ne_eq, n_up, g_up, e_cat, e9]
      clear hn hf ha hS hR
      repeat' (first | (refine And.intro ?_ ?_) | (intro _))
      all_goals (first | with_reducible assumption | omega | (exfalso; omega))
  have h0 := loop _ 0 rfl (Nat.zero_le _) (rA ct_g0 1) (rA (gA ct_g0 1 (rA ct_g0 1)) 2) (fun y h => by omega) (fun y h => by omega)
  rw [gA_self, gA_self] at h0
  clear hs loop
  apply hR 20
  simp (maxSteps := 10000000) (disch := omega) only [hS, hn, sm_eqs, hf, ha, sm_b0, Int.reduceToNat, ↓reduceIte, Nat.reduceEqDiff, true_and, and_true, List.length_nil, List.length_cons, Nat.reduceAdd, Nat.reduceLeDiff, Nat.zero_le, false_implies, true_implies, not_true_eq_false, not_false_eq_true, implies_true, Nat.reduceSub, Nat.reduceMul, Nat.reduceDiv, reduceCtorEq, tn_clamp, nI_t, tn_nI, nI_add, pk_mul, rS_gS, rS_gA, rS_gL, rA_gS, rA_gA, rA_gL, rL_gS, rL_gA, rL_gL, and_self, and_false, false_and, if_true, if_false, true_or, or_true, or_false, false_or, sm_in, eqI, sI_s, Int32.toInt_zero, Int.natCast_zero, Int.natCast_one, Int.cast_ofNat_Int, Int.reduceEq, Int.reduceLT, Int.reduceLE, Int.reduceNeg, Int.reduceNe, ne_eq, n_up, g_up, e_cat]
  exact h0
theorem dX7_init_0 : decode cX7_init 0 = .ok (.aload_n 0, 1) := by decide +kernel
theorem dX7_init_1 : decode cX7_init 1 = .ok (.invokespecial 3, 3) := by decide +kernel
theorem dX7_init_4 : decode cX7_init 4 = .ok (.aload_n 0, 1) := by decide +kernel
theorem dX7_init_5 : decode cX7_init 5 = .ok (.bipush 60, 2) := by decide +kernel
theorem dX7_init_7 : decode cX7_init 7 = .ok (.newarray .int, 2) := by decide +kernel
theorem dX7_init_9 : decode cX7_init 9 = .ok (.putfield 9, 3) := by decide +kernel
theorem dX7_init_12 : decode cX7_init 12 = .ok (.aload_n 0, 1) := by decide +kernel
theorem dX7_init_13 : decode cX7_init 13 = .ok (.bipush 60, 2) := by decide +kernel
theorem dX7_init_15 : decode cX7_init 15 = .ok (.newarray .int, 2) := by decide +kernel
theorem dX7_init_17 : decode cX7_init 17 = .ok (.putfield 15, 3) := by decide +kernel
theorem dX7_init_20 : decode cX7_init 20 = .ok (.aload_n 0, 1) := by decide +kernel
theorem dX7_init_21 : decode cX7_init 21 = .ok (.sipush 960, 3) := by decide +kernel
theorem dX7_init_24 : decode cX7_init 24 = .ok (.newarray .int, 2) := by decide +kernel
theorem dX7_init_26 : decode cX7_init 26 = .ok (.putfield 18, 3) := by decide +kernel
theorem dX7_init_29 : decode cX7_init 29 = .ok (.iconst 0, 1) := by decide +kernel
theorem dX7_init_30 : decode cX7_init 30 = .ok (.istore_n 1, 1) := by decide +kernel
theorem dX7_init_31 : decode cX7_init 31 = .ok (.iload_n 1, 1) := by decide +kernel
theorem dX7_init_32 : decode cX7_init 32 = .ok (.aload_n 0, 1) := by decide +kernel
theorem dX7_init_33 : decode cX7_init 33 = .ok (.getfield 9, 3) := by decide +kernel
theorem dX7_init_36 : decode cX7_init 36 = .ok (.arraylength, 1) := by decide +kernel
theorem dX7_init_37 : decode cX7_init 37 = .ok (.if_icmp .ge 23, 3) := by decide +kernel
theorem dX7_init_40 : decode cX7_init 40 = .ok (.aload_n 0, 1) := by decide +kernel
theorem dX7_init_41 : decode cX7_init 41 = .ok (.getfield 9, 3) := by decide +kernel
theorem dX7_init_44 : decode cX7_init 44 = .ok (.iload_n 1, 1) := by decide +kernel
theorem dX7_init_45 : decode cX7_init 45 = .ok (.iconst (-1), 1) := by decide +kernel
theorem dX7_init_46 : decode cX7_init 46 = .ok (.iastore, 1) := by decide +kernel
theorem dX7_init_47 : decode cX7_init 47 = .ok (.aload_n 0, 1) := by decide +kernel
theorem dX7_init_48 : decode cX7_init 48 = .ok (.getfield 15, 3) := by decide +kernel
theorem dX7_init_51 : decode cX7_init 51 = .ok (.iload_n 1, 1) := by decide +kernel
theorem dX7_init_52 : decode cX7_init 52 = .ok (.iconst 0, 1) := by decide +kernel
theorem dX7_init_53 : decode cX7_init 53 = .ok (.iastore, 1) := by decide +kernel
theorem dX7_init_54 : decode cX7_init 54 = .ok (.iinc 1 1, 3) := by decide +kernel
theorem dX7_init_57 : decode cX7_init 57 = .ok (.goto (-26), 3) := by decide +kernel
theorem dX7_init_60 : decode cX7_init 60 = .ok (.return_, 1) := by decide +kernel
theorem mok_X7_init : sm_mok (yX7_init, cX7_init, 2, none) := ⟨sm_b1 55 rfl rfl, sm_b1 3 rfl rfl, by decide +kernel, by decide +kernel, by decide +kernel, by decide⟩
set_option maxHeartbeats 4000000 in
set_option maxRecDepth 100000 in
theorem k_X7 (l : Launch) (D : va_G) (cA : Nat → ClassId) (h0 sz : Nat) : Met l yX7_init (Cond.code yX7_init cX7_init 2 none :: sm_BW) ({ frames := 1, cells := 3, slots := 1080, locals := 40 }) (va_Pc [.ref h0] (ct_Pre D cA sz h0 7 [.null, .null, .null])) (va_Qv (fun u : (Nat → Nat) × (Nat → Nat → Int32) => (∀ x, x < 60 → u.2 0 x = sI 0) ∧ (∀ x, x < 60 → u.2 1 x = nI 0)) (fun u t => va_P D vwCl [(h0, .inr (7, [.ref (u.1 0), .ref (u.1 1), .ref (u.1 2)])), ((u.1 0), .inl (cA 1, 60, .inl (u.2 0))), ((u.1 1), .inl (cA 1, 60, .inl (u.2 1))), ((u.1 2), .inl (cA 1, 960, .inl (fun _ => 0)))] t.heap ∧ va_D (va_A [(h0, .inr (7, [.null, .null, .null]))] sz) [(h0, .inr (7, [.ref (u.1 0), .ref (u.1 1), .ref (u.1 2)])), ((u.1 0), .inl (cA 1, 60, .inl (u.2 0))), ((u.1 1), .inl (cA 1, 60, .inl (u.2 1))), ((u.1 2), .inl (cA 1, 960, .inl (fun _ => 0)))]) (va_A [(h0, .inr (7, [.null, .null, .null]))] sz)) 3 1080 (va_A [(h0, .inr (7, [.null, .null, .null]))] sz) := by
  refine Met.ofW (cc := cX7_init) (maxL := 2) (ret := none) (by decide) rfl ?_
  intro p e s m args below meth c s₁ B hml hv
  obtain ⟨rfl, hsz, hP, hK, hD0, hN⟩ := hv
  have hx := B.exec
  have hb := B.bytes
  have hr := B.returns
  have hts := atoms_spec (ws := Cond.code yX7_init cX7_init 2 none :: sm_BW) B.pre
  have htB : ∀ w ∈ sm_BW, w.before _ s = true := fun w hw => hts w (List.mem_cons_of_mem _ hw)
  have hown : s.vm.findClass RX7 = some m.cls := findClass_of_methodNamed B.named
  have hlocks := B.notSynchronized
  have hin : meth.name = "<init>" := (name_of_methodNamed B.named B.method).1
  subst hsz
  have hD := hD0.self (sz := s.heap.size)
  generalize hAe : va_A [(h0, .inr (7, [.null, .null, .null]))] s.heap.size = A at hD ⊢
  have hA : ∀ q : Nat, s.heap.size ≤ q → A q := fun q h => by rw [← hAe]; exact Or.inr h
  have C0 : ct_ctx p s m _ meth c D cA A RX7 cX7_init := ⟨hx, hb, hown, htB, hK, hA, hin⟩
  have hS : va_S A s.heap s.heap [] := va_S.rf
  have hP : va_P D vwCl [(h0, .inr (7, [.null, .null, .null]))] s.heap := hP
  have hl := lv_entry ([.ref h0]) (n := 2) (Nat.le_of_ble_eq_true rfl)
  rw [lg_entry_eq]
  generalize (lg_sl ([.ref h0]) ++ List.replicate (2 - (lg_sl ([.ref h0])).length) Slot.unset).toArray = ls at hl ⊢
  have hl : lv_has ls 2 [(0, .ref h0)] := hl
  refine lv_aload_n hx hb dX7_init_0 rfl (lv_at hl 0 rfl) ?_
  refine W.objInit hx hb hown (htB _ (sm_b1 56 rfl rfl)) (htB _ (sm_b1 25 rfl rfl)) (htB _ (sm_b1 26 rfl rfl)) rfl (by rw [hml]; exact hl.1) rfl dX7_init_1 (Nat.le_of_ble_eq_true rfl) (Nat.le_of_ble_eq_true rfl) ?_
  refine W.eq (g2 := F0 m 4 ls []) rfl ?_
  refine lv_aload_n hx hb dX7_init_4 rfl (lv_at hl 0 rfl) ?_
  refine lv_bipush (v := 60) hx hb dX7_init_5 (by decide) ?_
  refine ct_I C0 (n := 60) (N := 60) (by decide) rfl (Nat.le_of_ble_eq_true rfl) (Nat.le_of_ble_eq_true rfl) (Nat.le_of_ble_eq_true rfl) hP hD hS dX7_init_7 (fun q1 H hP hD hS => ?_)
  have hP : va_P D vwCl [(h0, .inr (7, [.null, .null, .null])), (q1, .inl (cA 1, 60, .inl (fun _ => 0)))] H := hP
  have hD : va_D A [(h0, .inr (7, [.null, .null, .null])), (q1, .inl (cA 1, 60, .inl (fun _ => 0)))] := hD
  refine W.widen (k := 1) (n := 60) (Nat.le_of_ble_eq_true rfl) (Nat.le_of_ble_eq_true rfl) ?_
  refine ct_put (v := .ref q1) (T := TX7) (N := 3) (k := 0) C0 rfl v_cok_X7 (by decide) tyX7_ok (htB _ (sm_b1 57 rfl rfl)) rfl rfl rfl rfl hP hD hS rfl (Nat.le_of_ble_eq_true rfl) dX7_init_9 (fun H locs hP hD hS => ?_)
  have hP : va_P D vwCl [(h0, .inr (7, [.ref q1, .null, .null])), (q1, .inl (cA 1, 60, .inl (fun _ => 0)))] H := hP
  have hD : va_D A [(h0, .inr (7, [.ref q1, .null, .null])), (q1, .inl (cA 1, 60, .inl (fun _ => 0)))] := hD
  refine lv_aload_n hx hb dX7_init_12 rfl (lv_at hl 0 rfl) ?_
  refine lv_bipush (v := 60) hx hb dX7_init_13 (by decide) ?_
  refine ct_I C0 (n := 60) (N := 60) (by decide) rfl (Nat.le_of_ble_eq_true rfl) (Nat.le_of_ble_eq_true rfl) (Nat.le_of_ble_eq_true rfl) hP hD hS dX7_init_15 (fun q2 H hP hD hS => ?_)
  have hP : va_P D vwCl [(h0, .inr (7, [.ref q1, .null, .null])), (q1, .inl (cA 1, 60, .inl (fun _ => 0))), (q2, .inl (cA 1, 60, .inl (fun _ => 0)))] H := hP
  have hD : va_D A [(h0, .inr (7, [.ref q1, .null, .null])), (q1, .inl (cA 1, 60, .inl (fun _ => 0))), (q2, .inl (cA 1, 60, .inl (fun _ => 0)))] := hD
  refine W.widen (k := 2) (n := 120) (Nat.le_of_ble_eq_true rfl) (Nat.le_of_ble_eq_true rfl) ?_
  refine ct_put (v := .ref q2) (T := TX7) (N := 3) (k := 1) C0 rfl v_cok_X7 (by decide) tyX7_ok (htB _ (sm_b1 58 rfl rfl)) rfl rfl rfl rfl hP hD hS rfl (Nat.le_of_ble_eq_true rfl) dX7_init_17 (fun H locs hP hD hS => ?_)
  have hP : va_P D vwCl [(h0, .inr (7, [.ref q1, .ref q2, .null])), (q1, .inl (cA 1, 60, .inl (fun _ => 0))), (q2, .inl (cA 1, 60, .inl (fun _ => 0)))] H := hP
  have hD : va_D A [(h0, .inr (7, [.ref q1, .ref q2, .null])), (q1, .inl (cA 1, 60, .inl (fun _ => 0))), (q2, .inl (cA 1, 60, .inl (fun _ => 0)))] := hD
  refine lv_aload_n hx hb dX7_init_20 rfl (lv_at hl 0 rfl) ?_
  refine lv_sipush (v := 960) hx hb dX7_init_21 (by decide) ?_
  refine ct_I C0 (n := 960) (N := 960) (by decide) rfl (Nat.le_of_ble_eq_true rfl) (Nat.le_of_ble_eq_true rfl) (Nat.le_of_ble_eq_true rfl) hP hD hS dX7_init_24 (fun q3 H hP hD hS => ?_)
  have hP : va_P D vwCl [(h0, .inr (7, [.ref q1, .ref q2, .null])), (q1, .inl (cA 1, 60, .inl (fun _ => 0))), (q2, .inl (cA 1, 60, .inl (fun _ => 0))), (q3, .inl (cA 1, 960, .inl (fun _ => 0)))] H := hP
  have hD : va_D A [(h0, .inr (7, [.ref q1, .ref q2, .null])), (q1, .inl (cA 1, 60, .inl (fun _ => 0))), (q2, .inl (cA 1, 60, .inl (fun _ => 0))), (q3, .inl (cA 1, 960, .inl (fun _ => 0)))] := hD
  refine W.widen (k := 3) (n := 1080) (Nat.le_of_ble_eq_true rfl) (Nat.le_of_ble_eq_true rfl) ?_
  refine ct_put (v := .ref q3) (T := TX7) (N := 3) (k := 2) C0 rfl v_cok_X7 (by decide) tyX7_ok (htB _ (sm_b1 59 rfl rfl)) rfl rfl rfl rfl hP hD hS rfl (Nat.le_of_ble_eq_true rfl) dX7_init_26 (fun H locs hP hD hS => ?_)
  have hP : va_P D vwCl [(h0, .inr (7, [.ref q1, .ref q2, .ref q3])), (q1, .inl (cA 1, 60, .inl (fun _ => 0))), (q2, .inl (cA 1, 60, .inl (fun _ => 0))), (q3, .inl (cA 1, 960, .inl (fun _ => 0)))] H := hP
  have hD : va_D A [(h0, .inr (7, [.ref q1, .ref q2, .ref q3])), (q1, .inl (cA 1, 60, .inl (fun _ => 0))), (q2, .inl (cA 1, 60, .inl (fun _ => 0))), (q3, .inl (cA 1, 960, .inl (fun _ => 0)))] := hD
  obtain ⟨ad, had⟩ : ∃ ad : Nat → Nat, ad = (fun i => [h0, q1, q2, q3].getD i 0) := ⟨_, rfl⟩
  have hPm : va_P D vwCl (sm_pic lay7 ad cA ct_g0) H := by rw [had]; exact hP
  have hDm : va_D A (sm_pic lay7 ad cA ct_g0) := by rw [had]; exact hD
  have C1 : sm_ctx p s m _ c D ad cA A s.heap lay7 TX7_.1 cX7_init none := ⟨hx, hb, hown, htB, hK, fun g' => sm_pic_D hDm g', fun q hq => by cases hq⟩
  have hll : sm_lv ad ls 2 [some (.ref 0), none] := ⟨⟨rfl, fun k v hk x => ?_⟩, by rw [had]; exact hl⟩
  rotate_left
  · match k, hk with
    | 0, hk => cases hk; exact fun h => by cases h
    | 1, hk => cases hk
    | k + 2, hk => simp at hk
  refine (fun (hret : sm_retok p l e (headSpec (Cond.code yX7_init cX7_init 2 none :: sm_BW) ({ frames := 1, cells := 3, slots := 1080, locals := 40 })).room s m #[.ref h0] below meth c _ D ad cA A s.heap lay7 3 1080 cX7_init 4 (fun _ u => ∃ f h : Nat → Int32, (∀ x, x < 60 → f x = sI 0) ∧ (∀ x, x < 60 → h x = nI 0) ∧ u = gA (gA ct_g0 1 f) 2 h)) => lp_X7 _ _ _ (sm_walks (hd := [31]) (nL := 2) (cs := sm_cl []) (d := 0) C1 hml hA hN v_cok lok7 ka7 v_tok_X7 (sm_spok_cl (mt := sm_mt) (L := []) (fun _ h => absurd h List.not_mem_nil)) ⟨Nat.le_of_ble_eq_true rfl, Nat.le_of_ble_eq_true rfl, Nat.le_refl _, Nat.le_refl _⟩ hret) (fun f h a b => ⟨f, h, a, b, rfl⟩) ls H _ hll hPm hS) ?_
  intro pc a H locs u hPu hSu
  refine ⟨fun x _ hz _ => ?_, fun x _ h => absurd h (by decide), fun x _ h => absurd h (by decide), fun hdec _ hK => ?_⟩
  · rcases hz with h | h
    · exact absurd h (by decide)
    · exact absurd h.1 (by decide)
  · obtain ⟨f, h, hf9, hh9, rfl⟩ := hK
    have hD9 := sm_pic_D hDm (gA (gA ct_g0 1 f) 2 h)
    rw [had] at hPu hD9
    have hP9 : va_P D vwCl [(h0, .inr (7, [.ref q1, .ref q2, .ref q3])), (q1, .inl (cA 1, 60, .inl f)), (q2, .inl (cA 1, 60, .inl h)), (q3, .inl (cA 1, 960, .inl (fun _ => 0)))] H := hPu
    have hD9 : va_D A [(h0, .inr (7, [.ref q1, .ref q2, .ref q3])), (q1, .inl (cA 1, 60, .inl f)), (q2, .inl (cA 1, 60, .inl h)), (q3, .inl (cA 1, 960, .inl (fun _ => 0)))] := hD9
    exact W.vret hx hb hr (fun t ht hW => ⟨⟨((fun i => [q1, q2, q3].getD i 0), (fun i => [f, h].getD i (fun _ => 0))), rfl, ⟨hf9, hh9⟩, by rw [ht]; exact hP9, hD9⟩, hSu.F ht⟩) hSu.2.2 hdec

