theorem dX5_init_0 : decode cX5_init 0 = .ok (.aload_n 0, 1) := by decide +kernel
theorem dX5_init_1 : decode cX5_init 1 = .ok (.invokespecial 3, 3) := by decide +kernel
theorem dX5_init_4 : decode cX5_init 4 = .ok (.aload_n 0, 1) := by decide +kernel
theorem dX5_init_5 : decode cX5_init 5 = .ok (.bipush 16, 2) := by decide +kernel
theorem dX5_init_7 : decode cX5_init 7 = .ok (.newarray .int, 2) := by decide +kernel
theorem dX5_init_9 : decode cX5_init 9 = .ok (.putfield 9, 3) := by decide +kernel
theorem dX5_init_12 : decode cX5_init 12 = .ok (.aload_n 0, 1) := by decide +kernel
theorem dX5_init_13 : decode cX5_init 13 = .ok (.bipush 16, 2) := by decide +kernel
theorem dX5_init_15 : decode cX5_init 15 = .ok (.newarray .int, 2) := by decide +kernel
theorem dX5_init_17 : decode cX5_init 17 = .ok (.putfield 15, 3) := by decide +kernel
theorem dX5_init_20 : decode cX5_init 20 = .ok (.aload_n 0, 1) := by decide +kernel
theorem dX5_init_21 : decode cX5_init 21 = .ok (.bipush 16, 2) := by decide +kernel
theorem dX5_init_23 : decode cX5_init 23 = .ok (.newarray .int, 2) := by decide +kernel
theorem dX5_init_25 : decode cX5_init 25 = .ok (.putfield 18, 3) := by decide +kernel
theorem dX5_init_28 : decode cX5_init 28 = .ok (.aload_n 0, 1) := by decide +kernel
theorem dX5_init_29 : decode cX5_init 29 = .ok (.sipush 640, 3) := by decide +kernel
theorem dX5_init_32 : decode cX5_init 32 = .ok (.newarray .long, 2) := by decide +kernel
theorem dX5_init_34 : decode cX5_init 34 = .ok (.putfield 21, 3) := by decide +kernel
theorem dX5_init_37 : decode cX5_init 37 = .ok (.aload_n 0, 1) := by decide +kernel
theorem dX5_init_38 : decode cX5_init 38 = .ok (.iconst 0, 1) := by decide +kernel
theorem dX5_init_39 : decode cX5_init 39 = .ok (.putfield 25, 3) := by decide +kernel
theorem dX5_init_42 : decode cX5_init 42 = .ok (.return_, 1) := by decide +kernel
theorem mok_X5_init : sm_mok (yX5_init, cX5_init, 1, none) := ⟨sm_b1 31 rfl rfl, sm_b1 2 rfl rfl, by decide +kernel, by decide +kernel, by decide +kernel, by decide⟩
set_option maxHeartbeats 4000000 in
set_option maxRecDepth 100000 in
theorem k_X5 (l : Launch) (D : va_G) (cA : Nat → ClassId) (h0 sz : Nat) : Met l yX5_init (Cond.code yX5_init cX5_init 1 none :: sm_BW) ({ frames := 1, cells := 4, slots := 688, locals := 40 }) (va_Pc [.ref h0] (ct_Pre D cA sz h0 5 [.null, .null, .null, .null, .int 0])) (va_Qv (fun u : (Nat → Nat) × (Nat → Nat → Int32) => True) (fun u t => va_P D vwCl [(h0, .inr (5, [.ref (u.1 0), .ref (u.1 1), .ref (u.1 2), .ref (u.1 3), .int 0])), ((u.1 0), .inl (cA 1, 16, .inl (fun _ => 0))), ((u.1 1), .inl (cA 1, 16, .inl (fun _ => 0))), ((u.1 2), .inl (cA 1, 16, .inl (fun _ => 0))), ((u.1 3), .inl (cA 3, 640, .inr (.inl (fun _ => 0))))] t.heap ∧ va_D (va_A [(h0, .inr (5, [.null, .null, .null, .null, .int 0]))] sz) [(h0, .inr (5, [.ref (u.1 0), .ref (u.1 1), .ref (u.1 2), .ref (u.1 3), .int 0])), ((u.1 0), .inl (cA 1, 16, .inl (fun _ => 0))), ((u.1 1), .inl (cA 1, 16, .inl (fun _ => 0))), ((u.1 2), .inl (cA 1, 16, .inl (fun _ => 0))), ((u.1 3), .inl (cA 3, 640, .inr (.inl (fun _ => 0))))]) (va_A [(h0, .inr (5, [.null, .null, .null, .null, .int 0]))] sz)) 4 688 (va_A [(h0, .inr (5, [.null, .null, .null, .null, .int 0]))] sz) := by
  refine Met.ofW (cc := cX5_init) (maxL := 1) (ret := none) (by decide) rfl ?_
  intro p e s m args below meth c s₁ B hml hv
  obtain ⟨rfl, hsz, hP, hK, hD0, hN⟩ := hv
  have hx := B.exec
  have hb := B.bytes
  have hr := B.returns
  have hts := atoms_spec (ws := Cond.code yX5_init cX5_init 1 none :: sm_BW) B.pre
  have htB : ∀ w ∈ sm_BW, w.before _ s = true := fun w hw => hts w (List.mem_cons_of_mem _ hw)
  have hown : s.vm.findClass RX5 = some m.cls := findClass_of_methodNamed B.named
  have hlocks := B.notSynchronized
  have hin : meth.name = "<init>" := (name_of_methodNamed B.named B.method).1
  subst hsz
  have hD := hD0.self (sz := s.heap.size)
  generalize hAe : va_A [(h0, .inr (5, [.null, .null, .null, .null, .int 0]))] s.heap.size = A at hD ⊢
  have hA : ∀ q : Nat, s.heap.size ≤ q → A q := fun q h => by rw [← hAe]; exact Or.inr h
  have C0 : ct_ctx p s m _ meth c D cA A RX5 cX5_init := ⟨hx, hb, hown, htB, hK, hA, hin⟩
  have hS : va_S A s.heap s.heap [] := va_S.rf
  have hP : va_P D vwCl [(h0, .inr (5, [.null, .null, .null, .null, .int 0]))] s.heap := hP
  have hl := lv_entry ([.ref h0]) (n := 1) (Nat.le_of_ble_eq_true rfl)
  rw [lg_entry_eq]
  generalize (lg_sl ([.ref h0]) ++ List.replicate (1 - (lg_sl ([.ref h0])).length) Slot.unset).toArray = ls at hl ⊢
  have hl : lv_has ls 1 [(0, .ref h0)] := hl
  refine lv_aload_n hx hb dX5_init_0 rfl (lv_at hl 0 rfl) ?_
  refine W.objInit hx hb hown (htB _ (sm_b1 32 rfl rfl)) (htB _ (sm_b1 25 rfl rfl)) (htB _ (sm_b1 26 rfl rfl)) rfl (by rw [hml]; exact hl.1) rfl dX5_init_1 (Nat.le_of_ble_eq_true rfl) (Nat.le_of_ble_eq_true rfl) ?_
  refine W.eq (g2 := F0 m 4 ls []) rfl ?_
  refine lv_aload_n hx hb dX5_init_4 rfl (lv_at hl 0 rfl) ?_
  refine lv_bipush (v := 16) hx hb dX5_init_5 (by decide) ?_
  refine ct_I C0 (n := 16) (N := 16) (by decide) rfl (Nat.le_of_ble_eq_true rfl) (Nat.le_of_ble_eq_true rfl) (Nat.le_of_ble_eq_true rfl) hP hD hS dX5_init_7 (fun q1 H hP hD hS => ?_)
  have hP : va_P D vwCl [(h0, .inr (5, [.null, .null, .null, .null, .int 0])), (q1, .inl (cA 1, 16, .inl (fun _ => 0)))] H := hP
  have hD : va_D A [(h0, .inr (5, [.null, .null, .null, .null, .int 0])), (q1, .inl (cA 1, 16, .inl (fun _ => 0)))] := hD
  refine W.widen (k := 1) (n := 16) (Nat.le_of_ble_eq_true rfl) (Nat.le_of_ble_eq_true rfl) ?_
  refine ct_put (v := .ref q1) (T := TX5) (N := 5) (k := 0) C0 rfl v_cok_X5 (by decide) tyX5_ok (htB _ (sm_b1 33 rfl rfl)) rfl rfl rfl rfl hP hD hS rfl (Nat.le_of_ble_eq_true rfl) dX5_init_9 (fun H locs hP hD hS => ?_)
  have hP : va_P D vwCl [(h0, .inr (5, [.ref q1, .null, .null, .null, .int 0])), (q1, .inl (cA 1, 16, .inl (fun _ => 0)))] H := hP
  have hD : va_D A [(h0, .inr (5, [.ref q1, .null, .null, .null, .int 0])), (q1, .inl (cA 1, 16, .inl (fun _ => 0)))] := hD
  refine lv_aload_n hx hb dX5_init_12 rfl (lv_at hl 0 rfl) ?_
  refine lv_bipush (v := 16) hx hb dX5_init_13 (by decide) ?_
  refine ct_I C0 (n := 16) (N := 16) (by decide) rfl (Nat.le_of_ble_eq_true rfl) (Nat.le_of_ble_eq_true rfl) (Nat.le_of_ble_eq_true rfl) hP hD hS dX5_init_15 (fun q2 H hP hD hS => ?_)
  have hP : va_P D vwCl [(h0, .inr (5, [.ref q1, .null, .null, .null, .int 0])), (q1, .inl (cA 1, 16, .inl (fun _ => 0))), (q2, .inl (cA 1, 16, .inl (fun _ => 0)))] H := hP
  have hD : va_D A [(h0, .inr (5, [.ref q1, .null, .null, .null, .int 0])), (q1, .inl (cA 1, 16, .inl (fun _ => 0))), (q2, .inl (cA 1, 16, .inl (fun _ => 0)))] := hD
  refine W.widen (k := 2) (n := 32) (Nat.le_of_ble_eq_true rfl) (Nat.le_of_ble_eq_true rfl) ?_
  refine ct_put (v := .ref q2) (T := TX5) (N := 5) (k := 1) C0 rfl v_cok_X5 (by decide) tyX5_ok (htB _ (sm_b1 34 rfl rfl)) rfl rfl rfl rfl hP hD hS rfl (Nat.le_of_ble_eq_true rfl) dX5_init_17 (fun H locs hP hD hS => ?_)
  have hP : va_P D vwCl [(h0, .inr (5, [.ref q1, .ref q2, .null, .null, .int 0])), (q1, .inl (cA 1, 16, .inl (fun _ => 0))), (q2, .inl (cA 1, 16, .inl (fun _ => 0)))] H := hP
  have hD : va_D A [(h0, .inr (5, [.ref q1, .ref q2, .null, .null, .int 0])), (q1, .inl (cA 1, 16, .inl (fun _ => 0))), (q2, .inl (cA 1, 16, .inl (fun _ => 0)))] := hD
  refine lv_aload_n hx hb dX5_init_20 rfl (lv_at hl 0 rfl) ?_
  refine lv_bipush (v := 16) hx hb dX5_init_21 (by decide) ?_
  refine ct_I C0 (n := 16) (N := 16) (by decide) rfl (Nat.le_of_ble_eq_true rfl) (Nat.le_of_ble_eq_true rfl) (Nat.le_of_ble_eq_true rfl) hP hD hS dX5_init_23 (fun q3 H hP hD hS => ?_)
  have hP : va_P D vwCl [(h0, .inr (5, [.ref q1, .ref q2, .null, .null, .int 0])), (q1, .inl (cA 1, 16, .inl (fun _ => 0))), (q2, .inl (cA 1, 16, .inl (fun _ => 0))), (q3, .inl (cA 1, 16, .inl (fun _ => 0)))] H := hP
  have hD : va_D A [(h0, .inr (5, [.ref q1, .ref q2, .null, .null, .int 0])), (q1, .inl (cA 1, 16, .inl (fun _ => 0))), (q2, .inl (cA 1, 16, .inl (fun _ => 0))), (q3, .inl (cA 1, 16, .inl (fun _ => 0)))] := hD
  refine W.widen (k := 3) (n := 48) (Nat.le_of_ble_eq_true rfl) (Nat.le_of_ble_eq_true rfl) ?_
  refine ct_put (v := .ref q3) (T := TX5) (N := 5) (k := 2) C0 rfl v_cok_X5 (by decide) tyX5_ok (htB _ (sm_b1 35 rfl rfl)) rfl rfl rfl rfl hP hD hS rfl (Nat.le_of_ble_eq_true rfl) dX5_init_25 (fun H locs hP hD hS => ?_)
  have hP : va_P D vwCl [(h0, .inr (5, [.ref q1, .ref q2, .ref q3, .null, .int 0])), (q1, .inl (cA 1, 16, .inl (fun _ => 0))), (q2, .inl (cA 1, 16, .inl (fun _ => 0))), (q3, .inl (cA 1, 16, .inl (fun _ => 0)))] H := hP
  have hD : va_D A [(h0, .inr (5, [.ref q1, .ref q2, .ref q3, .null, .int 0])), (q1, .inl (cA 1, 16, .inl (fun _ => 0))), (q2, .inl (cA 1, 16, .inl (fun _ => 0))), (q3, .inl (cA 1, 16, .inl (fun _ => 0)))] := hD
  refine lv_aload_n hx hb dX5_init_28 rfl (lv_at hl 0 rfl) ?_
  refine lv_sipush (v := 640) hx hb dX5_init_29 (by decide) ?_
  refine ct_J C0 (n := 640) (N := 640) (by decide) rfl (Nat.le_of_ble_eq_true rfl) (Nat.le_of_ble_eq_true rfl) (Nat.le_of_ble_eq_true rfl) hP hD hS dX5_init_32 (fun q4 H hP hD hS => ?_)
  have hP : va_P D vwCl [(h0, .inr (5, [.ref q1, .ref q2, .ref q3, .null, .int 0])), (q1, .inl (cA 1, 16, .inl (fun _ => 0))), (q2, .inl (cA 1, 16, .inl (fun _ => 0))), (q3, .inl (cA 1, 16, .inl (fun _ => 0))), (q4, .inl (cA 3, 640, .inr (.inl (fun _ => 0))))] H := hP
  have hD : va_D A [(h0, .inr (5, [.ref q1, .ref q2, .ref q3, .null, .int 0])), (q1, .inl (cA 1, 16, .inl (fun _ => 0))), (q2, .inl (cA 1, 16, .inl (fun _ => 0))), (q3, .inl (cA 1, 16, .inl (fun _ => 0))), (q4, .inl (cA 3, 640, .inr (.inl (fun _ => 0))))] := hD
  refine W.widen (k := 4) (n := 688) (Nat.le_of_ble_eq_true rfl) (Nat.le_of_ble_eq_true rfl) ?_
  refine ct_put (v := .ref q4) (T := TX5) (N := 5) (k := 3) C0 rfl v_cok_X5 (by decide) tyX5_ok (htB _ (sm_b1 36 rfl rfl)) rfl rfl rfl rfl hP hD hS rfl (Nat.le_of_ble_eq_true rfl) dX5_init_34 (fun H locs hP hD hS => ?_)
  have hP : va_P D vwCl [(h0, .inr (5, [.ref q1, .ref q2, .ref q3, .ref q4, .int 0])), (q1, .inl (cA 1, 16, .inl (fun _ => 0))), (q2, .inl (cA 1, 16, .inl (fun _ => 0))), (q3, .inl (cA 1, 16, .inl (fun _ => 0))), (q4, .inl (cA 3, 640, .inr (.inl (fun _ => 0))))] H := hP
  have hD : va_D A [(h0, .inr (5, [.ref q1, .ref q2, .ref q3, .ref q4, .int 0])), (q1, .inl (cA 1, 16, .inl (fun _ => 0))), (q2, .inl (cA 1, 16, .inl (fun _ => 0))), (q3, .inl (cA 1, 16, .inl (fun _ => 0))), (q4, .inl (cA 3, 640, .inr (.inl (fun _ => 0))))] := hD
  refine lv_aload_n hx hb dX5_init_37 rfl (lv_at hl 0 rfl) ?_
  refine lv_iconst (v := 0) hx hb dX5_init_38 (by decide) ?_
  refine ct_puti (v := .int 0) (T := TX5) (N := 5) (k := 4) C0 rfl v_cok_X5 (by decide) tyX5_ok (htB _ (sm_b1 37 rfl rfl)) rfl rfl rfl rfl hP hD hS rfl (Nat.le_of_ble_eq_true rfl) dX5_init_39 (fun H locs hP hD hS => ?_)
  have hP : va_P D vwCl [(h0, .inr (5, [.ref q1, .ref q2, .ref q3, .ref q4, .int 0])), (q1, .inl (cA 1, 16, .inl (fun _ => 0))), (q2, .inl (cA 1, 16, .inl (fun _ => 0))), (q3, .inl (cA 1, 16, .inl (fun _ => 0))), (q4, .inl (cA 3, 640, .inr (.inl (fun _ => 0))))] H := hP
  have hD : va_D A [(h0, .inr (5, [.ref q1, .ref q2, .ref q3, .ref q4, .int 0])), (q1, .inl (cA 1, 16, .inl (fun _ => 0))), (q2, .inl (cA 1, 16, .inl (fun _ => 0))), (q3, .inl (cA 1, 16, .inl (fun _ => 0))), (q4, .inl (cA 3, 640, .inr (.inl (fun _ => 0))))] := hD
  exact W.vret hx hb hr (fun t ht hW => ⟨⟨((fun i => [q1, q2, q3, q4].getD i 0), (fun i => [].getD i (fun _ => 0))), rfl, trivial, by rw [ht]; exact hP, hD⟩, hS.F ht⟩) hS.2.2 dX5_init_42
theorem dX6_init_0 : decode cX6_init 0 = .ok (.aload_n 0, 1) := by decide +kernel
theorem dX6_init_1 : decode cX6_init 1 = .ok (.invokespecial 3, 3) := by decide +kernel
theorem dX6_init_4 : decode cX6_init 4 = .ok (.aload_n 0, 1) := by decide +kernel
theorem dX6_init_5 : decode cX6_init 5 = .ok (.bipush 60, 2) := by decide +kernel
theorem dX6_init_7 : decode cX6_init 7 = .ok (.newarray .int, 2) := by decide +kernel
theorem dX6_init_9 : decode cX6_init 9 = .ok (.putfield 9, 3) := by decide +kernel
theorem dX6_init_12 : decode cX6_init 12 = .ok (.aload_n 0, 1) := by decide +kernel
theorem dX6_init_13 : decode cX6_init 13 = .ok (.bipush 60, 2) := by decide +kernel
theorem dX6_init_15 : decode cX6_init 15 = .ok (.newarray .boolean, 2) := by decide +kernel
theorem dX6_init_17 : decode cX6_init 17 = .ok (.putfield 15, 3) := by decide +kernel
theorem dX6_init_20 : decode cX6_init 20 = .ok (.aload_n 0, 1) := by decide +kernel
theorem dX6_init_21 : decode cX6_init 21 = .ok (.iconst 0, 1) := by decide +kernel
theorem dX6_init_22 : decode cX6_init 22 = .ok (.putfield 19, 3) := by decide +kernel
theorem dX6_init_25 : decode cX6_init 25 = .ok (.return_, 1) := by decide +kernel
theorem mok_X6_init : sm_mok (yX6_init, cX6_init, 1, none) := ⟨sm_b1 71 rfl rfl, sm_b1 4 rfl rfl, by decide +kernel, by decide +kernel, by decide +kernel, by decide⟩
set_option maxHeartbeats 4000000 in
set_option maxRecDepth 100000 in
theorem k_X6 (l : Launch) (D : va_G) (cA : Nat → ClassId) (h0 sz : Nat) : Met l yX6_init (Cond.code yX6_init cX6_init 1 none :: sm_BW) ({ frames := 1, cells := 2, slots := 120, locals := 40 }) (va_Pc [.ref h0] (ct_Pre D cA sz h0 6 [.null, .null, .int 0])) (va_Qv (fun u : (Nat → Nat) × (Nat → Nat → Int32) => True) (fun u t => va_P D vwCl [(h0, .inr (6, [.ref (u.1 0), .ref (u.1 1), .int 0])), ((u.1 0), .inl (cA 1, 60, .inl (fun _ => 0))), ((u.1 1), .inl (cA 2, 60, .inl (fun _ => 0)))] t.heap ∧ va_D (va_A [(h0, .inr (6, [.null, .null, .int 0]))] sz) [(h0, .inr (6, [.ref (u.1 0), .ref (u.1 1), .int 0])), ((u.1 0), .inl (cA 1, 60, .inl (fun _ => 0))), ((u.1 1), .inl (cA 2, 60, .inl (fun _ => 0)))]) (va_A [(h0, .inr (6, [.null, .null, .int 0]))] sz)) 2 120 (va_A [(h0, .inr (6, [.null, .null, .int 0]))] sz) := by
  refine Met.ofW (cc := cX6_init) (maxL := 1) (ret := none) (by decide) rfl ?_
  intro p e s m args below meth c s₁ B hml hv
  obtain ⟨rfl, hsz, hP, hK, hD0, hN⟩ := hv
  have hx := B.exec
  have hb := B.bytes
  have hr := B.returns
  have hts := atoms_spec (ws := Cond.code yX6_init cX6_init 1 none :: sm_BW) B.pre
  have htB : ∀ w ∈ sm_BW, w.before _ s = true := fun w hw => hts w (List.mem_cons_of_mem _ hw)
  have hown : s.vm.findClass RX6 = some m.cls := findClass_of_methodNamed B.named
  have hlocks := B.notSynchronized
  have hin : meth.name = "<init>" := (name_of_methodNamed B.named B.method).1
  subst hsz
  have hD := hD0.self (sz := s.heap.size)
  generalize hAe : va_A [(h0, .inr (6, [.null, .null, .int 0]))] s.heap.size = A at hD ⊢
  have hA : ∀ q : Nat, s.heap.size ≤ q → A q := fun q h => by rw [← hAe]; exact Or.inr h
  have C0 : ct_ctx p s m _ meth c D cA A RX6 cX6_init := ⟨hx, hb, hown, htB, hK, hA, hin⟩
  have hS : va_S A s.heap s.heap [] := va_S.rf
  have hP : va_P D vwCl [(h0, .inr (6, [.null, .null, .int 0]))] s.heap := hP
  have hl := lv_entry ([.ref h0]) (n := 1) (Nat.le_of_ble_eq_true rfl)
  rw [lg_entry_eq]
  generalize (lg_sl ([.ref h0]) ++ List.replicate (1 - (lg_sl ([.ref h0])).length) Slot.unset).toArray = ls at hl ⊢
  have hl : lv_has ls 1 [(0, .ref h0)] := hl
  refine lv_aload_n hx hb dX6_init_0 rfl (lv_at hl 0 rfl) ?_
  refine W.objInit hx hb hown (htB _ (sm_b1 72 rfl rfl)) (htB _ (sm_b1 25 rfl rfl)) (htB _ (sm_b1 26 rfl rfl)) rfl (by rw [hml]; exact hl.1) rfl dX6_init_1 (Nat.le_of_ble_eq_true rfl) (Nat.le_of_ble_eq_true rfl) ?_
  refine W.eq (g2 := F0 m 4 ls []) rfl ?_
  refine lv_aload_n hx hb dX6_init_4 rfl (lv_at hl 0 rfl) ?_
  refine lv_bipush (v := 60) hx hb dX6_init_5 (by decide) ?_
  refine ct_I C0 (n := 60) (N := 60) (by decide) rfl (Nat.le_of_ble_eq_true rfl) (Nat.le_of_ble_eq_true rfl) (Nat.le_of_ble_eq_true rfl) hP hD hS dX6_init_7 (fun q1 H hP hD hS => ?_)
  have hP : va_P D vwCl [(h0, .inr (6, [.null, .null, .int 0])), (q1, .inl (cA 1, 60, .inl (fun _ => 0)))] H := hP
  have hD : va_D A [(h0, .inr (6, [.null, .null, .int 0])), (q1, .inl (cA 1, 60, .inl (fun _ => 0)))] := hD
  refine W.widen (k := 1) (n := 60) (Nat.le_of_ble_eq_true rfl) (Nat.le_of_ble_eq_true rfl) ?_
  refine ct_put (v := .ref q1) (T := TX6) (N := 3) (k := 0) C0 rfl v_cok_X6 (by decide) tyX6_ok (htB _ (sm_b1 73 rfl rfl)) rfl rfl rfl rfl hP hD hS rfl (Nat.le_of_ble_eq_true rfl) dX6_init_9 (fun H locs hP hD hS => ?_)
  have hP : va_P D vwCl [(h0, .inr (6, [.ref q1, .null, .int 0])), (q1, .inl (cA 1, 60, .inl (fun _ => 0)))] H := hP
  have hD : va_D A [(h0, .inr (6, [.ref q1, .null, .int 0])), (q1, .inl (cA 1, 60, .inl (fun _ => 0)))] := hD
  refine lv_aload_n hx hb dX6_init_12 rfl (lv_at hl 0 rfl) ?_
  refine lv_bipush (v := 60) hx hb dX6_init_13 (by decide) ?_
  refine ct_Z C0 (n := 60) (N := 60) (by decide) rfl (Nat.le_of_ble_eq_true rfl) (Nat.le_of_ble_eq_true rfl) (Nat.le_of_ble_eq_true rfl) hP hD hS dX6_init_15 (fun q2 H hP hD hS => ?_)
  have hP : va_P D vwCl [(h0, .inr (6, [.ref q1, .null, .int 0])), (q1, .inl (cA 1, 60, .inl (fun _ => 0))), (q2, .inl (cA 2, 60, .inl (fun _ => 0)))] H := hP
  have hD : va_D A [(h0, .inr (6, [.ref q1, .null, .int 0])), (q1, .inl (cA 1, 60, .inl (fun _ => 0))), (q2, .inl (cA 2, 60, .inl (fun _ => 0)))] := hD
  refine W.widen (k := 2) (n := 120) (Nat.le_of_ble_eq_true rfl) (Nat.le_of_ble_eq_true rfl) ?_
  refine ct_put (v := .ref q2) (T := TX6) (N := 3) (k := 1) C0 rfl v_cok_X6 (by decide) tyX6_ok (htB _ (sm_b1 74 rfl rfl)) rfl rfl rfl rfl hP hD hS rfl (Nat.le_of_ble_eq_true rfl) dX6_init_17 (fun H locs hP hD hS => ?_)
  have hP : va_P D vwCl [(h0, .inr (6, [.ref q1, .ref q2, .int 0])), (q1, .inl (cA 1, 60, .inl (fun _ => 0))), (q2, .inl (cA 2, 60, .inl (fun _ => 0)))] H := hP
  have hD : va_D A [(h0, .inr (6, [.ref q1, .ref q2, .int 0])), (q1, .inl (cA 1, 60, .inl (fun _ => 0))), (q2, .inl (cA 2, 60, .inl (fun _ => 0)))] := hD
  refine lv_aload_n hx hb dX6_init_20 rfl (lv_at hl 0 rfl) ?_
  refine lv_iconst (v := 0) hx hb dX6_init_21 (by decide) ?_
  refine ct_puti (v := .int 0) (T := TX6) (N := 3) (k := 2) C0 rfl v_cok_X6 (by decide) tyX6_ok (htB _ (sm_b1 75 rfl rfl)) rfl rfl rfl rfl hP hD hS rfl (Nat.le_of_ble_eq_true rfl) dX6_init_22 (fun H locs hP hD hS => ?_)
  have hP : va_P D vwCl [(h0, .inr (6, [.ref q1, .ref q2, .int 0])), (q1, .inl (cA 1, 60, .inl (fun _ => 0))), (q2, .inl (cA 2, 60, .inl (fun _ => 0)))] H := hP
  have hD : va_D A [(h0, .inr (6, [.ref q1, .ref q2, .int 0])), (q1, .inl (cA 1, 60, .inl (fun _ => 0))), (q2, .inl (cA 2, 60, .inl (fun _ => 0)))] := hD
  exact W.vret hx hb hr (fun t ht hW => ⟨⟨((fun i => [q1, q2].getD i 0), (fun i => [].getD i (fun _ => 0))), rfl, trivial, by rw [ht]; exact hP, hD⟩, hS.F ht⟩) hS.2.2 dX6_init_25
theorem dX8_init_0 : decode cX8_init 0 = .ok (.aload_n 0, 1) := by decide +kernel
theorem dX8_init_1 : decode cX8_init 1 = .ok (.invokespecial 3, 3) := by decide +kernel
theorem dX8_init_4 : decode cX8_init 4 = .ok (.aload_n 0, 1) := by decide +kernel
theorem dX8_init_5 : decode cX8_init 5 = .ok (.bipush 60, 2) := by decide +kernel
theorem dX8_init_7 : decode cX8_init 7 = .ok (.newarray .int, 2) := by decide +kernel
theorem dX8_init_9 : decode cX8_init 9 = .ok (.putfield 9, 3) := by decide +kernel
theorem dX8_init_12 : decode cX8_init 12 = .ok (.aload_n 0, 1) := by decide +kernel
theorem dX8_init_13 : decode cX8_init 13 = .ok (.bipush 60, 2) := by decide +kernel
theorem dX8_init_15 : decode cX8_init 15 = .ok (.newarray .int, 2) := by decide +kernel
theorem dX8_init_17 : decode cX8_init 17 = .ok (.putfield 15, 3) := by decide +kernel
theorem dX8_init_20 : decode cX8_init 20 = .ok (.aload_n 0, 1) := by decide +kernel
theorem dX8_init_21 : decode cX8_init 21 = .ok (.bipush 60, 2) := by decide +kernel
theorem dX8_init_23 : decode cX8_init 23 = .ok (.newarray .boolean, 2) := by decide +kernel
theorem dX8_init_25 : decode cX8_init 25 = .ok (.putfield 18, 3) := by decide +kernel
theorem dX8_init_28 : decode cX8_init 28 = .ok (.aload_n 0, 1) := by decide +kernel
theorem dX8_init_29 : decode cX8_init 29 = .ok (.bipush 60, 2) := by decide +kernel
theorem dX8_init_31 : decode cX8_init 31 = .ok (.newarray .int, 2) := by decide +kernel
theorem dX8_init_33 : decode cX8_init 33 = .ok (.putfield 22, 3) := by decide +kernel
theorem dX8_init_36 : decode cX8_init 36 = .ok (.aload_n 0, 1) := by decide +kernel
theorem dX8_init_37 : decode cX8_init 37 = .ok (.bipush 60, 2) := by decide +kernel
theorem dX8_init_39 : decode cX8_init 39 = .ok (.newarray .int, 2) := by decide +kernel
theorem dX8_init_41 : decode cX8_init 41 = .ok (.putfield 25, 3) := by decide +kernel
theorem dX8_init_44 : decode cX8_init 44 = .ok (.aload_n 0, 1) := by decide +kernel
theorem dX8_init_45 : decode cX8_init 45 = .ok (.bipush 60, 2) := by decide +kernel
theorem dX8_init_47 : decode cX8_init 47 = .ok (.newarray .int, 2) := by decide +kernel
theorem dX8_init_49 : decode cX8_init 49 = .ok (.putfield 28, 3) := by decide +kernel
theorem dX8_init_52 : decode cX8_init 52 = .ok (.aload_n 0, 1) := by decide +kernel
theorem dX8_init_53 : decode cX8_init 53 = .ok (.bipush 60, 2) := by decide +kernel
theorem dX8_init_55 : decode cX8_init 55 = .ok (.newarray .int, 2) := by decide +kernel
theorem dX8_init_57 : decode cX8_init 57 = .ok (.putfield 31, 3) := by decide +kernel
theorem dX8_init_60 : decode cX8_init 60 = .ok (.aload_n 0, 1) := by decide +kernel
theorem dX8_init_61 : decode cX8_init 61 = .ok (.bipush 60, 2) := by decide +kernel
theorem dX8_init_63 : decode cX8_init 63 = .ok (.newarray .int, 2) := by decide +kernel
theorem dX8_init_65 : decode cX8_init 65 = .ok (.putfield 34, 3) := by decide +kernel
theorem dX8_init_68 : decode cX8_init 68 = .ok (.aload_n 0, 1) := by decide +kernel
theorem dX8_init_69 : decode cX8_init 69 = .ok (.bipush 60, 2) := by decide +kernel
theorem dX8_init_71 : decode cX8_init 71 = .ok (.newarray .int, 2) := by decide +kernel
theorem dX8_init_73 : decode cX8_init 73 = .ok (.putfield 37, 3) := by decide +kernel
theorem dX8_init_76 : decode cX8_init 76 = .ok (.aload_n 0, 1) := by decide +kernel
theorem dX8_init_77 : decode cX8_init 77 = .ok (.iconst 0, 1) := by decide +kernel
theorem dX8_init_78 : decode cX8_init 78 = .ok (.putfield 40, 3) := by decide +kernel
theorem dX8_init_81 : decode cX8_init 81 = .ok (.aload_n 0, 1) := by decide +kernel
theorem dX8_init_82 : decode cX8_init 82 = .ok (.iconst 0, 1) := by decide +kernel
theorem dX8_init_83 : decode cX8_init 83 = .ok (.putfield 44, 3) := by decide +kernel
theorem dX8_init_86 : decode cX8_init 86 = .ok (.return_, 1) := by decide +kernel
theorem mok_X8_init : sm_mok (yX8_init, cX8_init, 1, none) := ⟨sm_b1 88 rfl rfl, sm_b1 5 rfl rfl, by decide +kernel, by decide +kernel, by decide +kernel, by decide⟩
set_option maxHeartbeats 4000000 in
set_option maxRecDepth 100000 in
theorem k_X8 (l : Launch) (D : va_G) (cA : Nat → ClassId) (h0 sz : Nat) : Met l yX8_init (Cond.code yX8_init cX8_init 1 none :: sm_BW) ({ frames := 1, cells := 9, slots := 540, locals := 40 }) (va_Pc [.ref h0] (ct_Pre D cA sz h0 8 [.null, .null, .null, .null, .null, .null, .null, .null, .null, .int 0, .int 0])) (va_Qv (fun u : (Nat → Nat) × (Nat → Nat → Int32) => True) (fun u t => va_P D vwCl [(h0, .inr (8, [.ref (u.1 0), .ref (u.1 1), .ref (u.1 2), .ref (u.1 3), .ref (u.1 4), .ref (u.1 5), .ref (u.1 6), .ref (u.1 7), .ref (u.1 8), .int 0, .int 0])), ((u.1 0), .inl (cA 1, 60, .inl (fun _ => 0))), ((u.1 1), .inl (cA 1, 60, .inl (fun _ => 0))), ((u.1 2), .inl (cA 2, 60, .inl (fun _ => 0))), ((u.1 3), .inl (cA 1, 60, .inl (fun _ => 0))), ((u.1 4), .inl (cA 1, 60, .inl (fun _ => 0))), ((u.1 5), .inl (cA 1, 60, .inl (fun _ => 0))), ((u.1 6), .inl (cA 1, 60, .inl (fun _ => 0))), ((u.1 7), .inl (cA 1, 60, .inl (fun _ => 0))), ((u.1 8), .inl (cA 1, 60, .inl (fun _ => 0)))] t.heap ∧ va_D (va_A [(h0, .inr (8, [.null, .null, .null, .null, .null, .null, .null, .null, .null, .int 0, .int 0]))] sz) [(h0, .inr (8, [.ref (u.1 0), .ref (u.1 1), .ref (u.1 2), .ref (u.1 3), .ref (u.1 4), .ref (u.1 5), .ref (u.1 6), .ref (u.1 7), .ref (u.1 8), .int 0, .int 0])), ((u.1 0), .inl (cA 1, 60, .inl (fun _ => 0))), ((u.1 1), .inl (cA 1, 60, .inl (fun _ => 0))), ((u.1 2), .inl (cA 2, 60, .inl (fun _ => 0))), ((u.1 3), .inl (cA 1, 60, .inl (fun _ => 0))), ((u.1 4), .inl (cA 1, 60, .inl (fun _ => 0))), ((u.1 5), .inl (cA 1, 60, .inl (fun _ => 0))), ((u.1 6), .inl (cA 1, 60, .inl (fun _ => 0))), ((u.1 7), .inl (cA 1, 60, .inl (fun _ => 0))), ((u.1 8), .inl (cA 1, 60, .inl (fun _ => 0)))]) (va_A [(h0, .inr (8, [.null, .null, .null, .null, .null, .null, .null, .null, .null, .int 0, .int 0]))] sz)) 9 540 (va_A [(h0, .inr (8, [.null, .null, .null, .null, .null, .null, .null, .null, .null, .int 0, .int 0]))] sz) := by
  refine Met.ofW (cc := cX8_init) (maxL := 1) (ret := none) (by decide) rfl ?_
  intro p e s m args below meth c s₁ B hml hv
  obtain ⟨rfl, hsz, hP, hK, hD0, hN⟩ := hv
  have hx := B.exec
  have hb := B.bytes
  have hr := B.returns
  have hts := atoms_spec (ws := Cond.code yX8_init cX8_init 1 none :: sm_BW) B.pre
  have htB : ∀ w ∈ sm_BW, w.before _ s = true := fun w hw => hts w (List.mem_cons_of_mem _ hw)
  have hown : s.vm.findClass RX8 = some m.cls := findClass_of_methodNamed B.named
  have hlocks := B.notSynchronized
  have hin : meth.name = "<init>" := (name_of_methodNamed B.named B.method).1
  subst hsz
  have hD := hD0.self (sz := s.heap.size)
  generalize hAe : va_A [(h0, .inr (8, [.null, .null, .null, .null, .null, .null, .null, .null, .null, .int 0, .int 0]))] s.heap.size = A at hD ⊢
  have hA : ∀ q : Nat, s.heap.size ≤ q → A q := fun q h => by rw [← hAe]; exact Or.inr h
  have C0 : ct_ctx p s m _ meth c D cA A RX8 cX8_init := ⟨hx, hb, hown, htB, hK, hA, hin⟩
  have hS : va_S A s.heap s.heap [] := va_S.rf
  have hP : va_P D vwCl [(h0, .inr (8, [.null, .null, .null, .null, .null, .null, .null, .null, .null, .int 0, .int 0]))] s.heap := hP
  have hl := lv_entry ([.ref h0]) (n := 1) (Nat.le_of_ble_eq_true rfl)
  rw [lg_entry_eq]
  generalize (lg_sl ([.ref h0]) ++ List.replicate (1 - (lg_sl ([.ref h0])).length) Slot.unset).toArray = ls at hl ⊢
  have hl : lv_has ls 1 [(0, .ref h0)] := hl
  refine lv_aload_n hx hb dX8_init_0 rfl (lv_at hl 0 rfl) ?_
  refine W.objInit hx hb hown (htB _ (sm_b1 89 rfl rfl)) (htB _ (sm_b1 25 rfl rfl)) (htB _ (sm_b1 26 rfl rfl)) rfl (by rw [hml]; exact hl.1) rfl dX8_init_1 (Nat.le_of_ble_eq_true rfl) (Nat.le_of_ble_eq_true rfl) ?_
  refine W.eq (g2 := F0 m 4 ls []) rfl ?_
  refine lv_aload_n hx hb dX8_init_4 rfl (lv_at hl 0 rfl) ?_
  refine lv_bipush (v := 60) hx hb dX8_init_5 (by decide) ?_
  refine ct_I C0 (n := 60) (N := 60) (by decide) rfl (Nat.le_of_ble_eq_true rfl) (Nat.le_of_ble_eq_true rfl) (Nat.le_of_ble_eq_true rfl) hP hD hS dX8_init_7 (fun q1 H hP hD hS => ?_)
  have hP : va_P D vwCl [(h0, .inr (8, [.null, .null, .null, .null, .null, .null, .null, .null, .null, .int 0, .int 0])), (q1, .inl (cA 1, 60, .inl (fun _ => 0)))] H := hP
  have hD : va_D A [(h0, .inr (8, [.null, .null, .null, .null, .null, .null, .null, .null, .null, .int 0, .int 0])), (q1, .inl (cA 1, 60, .inl (fun _ => 0)))] := hD
  refine W.widen (k := 1) (n := 60) (Nat.le_of_ble_eq_true rfl) (Nat.le_of_ble_eq_true rfl) ?_
  refine ct_put (v := .ref q1) (T := TX8) (N := 11) (k := 0) C0 rfl v_cok_X8 (by decide) tyX8_ok (htB _ (sm_b1 90 rfl rfl)) rfl rfl rfl rfl hP hD hS rfl (Nat.le_of_ble_eq_true rfl) dX8_init_9 (fun H locs hP hD hS => ?_)
  have hP : va_P D vwCl [(h0, .inr (8, [.ref q1, .null, .null, .null, .null, .null, .null, .null, .null, .int 0, .int 0])), (q1, .inl (cA 1, 60, .inl (fun _ => 0)))] H := hP
  have hD : va_D A [(h0, .inr (8, [.ref q1, .null, .null, .null, .null, .null, .null, .null, .null, .int 0, .int 0])), (q1, .inl (cA 1, 60, .inl (fun _ => 0)))] := hD
  refine lv_aload_n hx hb dX8_init_12 rfl (lv_at hl 0 rfl) ?_
  refine lv_bipush (v := 60) hx hb dX8_init_13 (by decide) ?_
  refine ct_I C0 (n := 60) (N := 60) (by decide) rfl (Nat.le_of_ble_eq_true rfl) (Nat.le_of_ble_eq_true rfl) (Nat.le_of_ble_eq_true rfl) hP hD hS dX8_init_15 (fun q2 H hP hD hS => ?_)
  have hP : va_P D vwCl [(h0, .inr (8, [.ref q1, .null, .null, .null, .null, .null, .null, .null, .null, .int 0, .int 0])), (q1, .inl (cA 1, 60, .inl (fun _ => 0))), (q2, .inl (cA 1, 60, .inl (fun _ => 0)))] H := hP
  have hD : va_D A [(h0, .inr (8, [.ref q1, .null, .null, .null, .null, .null, .null, .null, .null, .int 0, .int 0])), (q1, .inl (cA 1, 60, .inl (fun _ => 0))), (q2, .inl (cA 1, 60, .inl (fun _ => 0)))] := hD
  refine W.widen (k := 2) (n := 120) (Nat.le_of_ble_eq_true rfl) (Nat.le_of_ble_eq_true rfl) ?_
  refine ct_put (v := .ref q2) (T := TX8) (N := 11) (k := 1) C0 rfl v_cok_X8 (by decide) tyX8_ok (htB _ (sm_b1 91 rfl rfl)) rfl rfl rfl rfl hP hD hS rfl (Nat.le_of_ble_eq_true rfl) dX8_init_17 (fun H locs hP hD hS => ?_)
  have hP : va_P D vwCl [(h0, .inr (8, [.ref q1, .ref q2, .null, .null, .null, .null, .null, .null, .null, .int 0, .int 0])), (q1, .inl (cA 1, 60, .inl (fun _ => 0))), (q2, .inl (cA 1, 60, .inl (fun _ => 0)))] H := hP
  have hD : va_D A [(h0, .inr (8, [.ref q1, .ref q2, .null, .null, .null, .null, .null, .null, .null, .int 0, .int 0])), (q1, .inl (cA 1, 60, .inl (fun _ => 0))), (q2, .inl (cA 1, 60, .inl (fun _ => 0)))] := hD
  refine lv_aload_n hx hb dX8_init_20 rfl (lv_at hl 0 rfl) ?_
  refine lv_bipush (v := 60) hx hb dX8_init_21 (by decide) ?_
  refine ct_Z C0 (n := 60) (N := 60) (by decide) rfl (Nat.le_of_ble_eq_true rfl) (Nat.le_of_ble_eq_true rfl) (Nat.le_of_ble_eq_true rfl) hP hD hS dX8_init_23 (fun q3 H hP hD hS => ?_)
  have hP : va_P D vwCl [(h0, .inr (8, [.ref q1, .ref q2, .null, .null, .null, .null, .null, .null, .null, .int 0, .int 0])), (q1, .inl (cA 1, 60, .inl (fun _ => 0))), (q2, .inl (cA 1, 60, .inl (fun _ => 0))), (q3, .inl (cA 2, 60, .inl (fun _ => 0)))] H := hP
  have hD : va_D A [(h0, .inr (8, [.ref q1, .ref q2, .null, .null, .null, .null, .null, .null, .null, .int 0, .int 0])), (q1, .inl (cA 1, 60, .inl (fun _ => 0))), (q2, .inl (cA 1, 60, .inl (fun _ => 0))), (q3, .inl (cA 2, 60, .inl (fun _ => 0)))] := hD
  refine W.widen (k := 3) (n := 180) (Nat.le_of_ble_eq_true rfl) (Nat.le_of_ble_eq_true rfl) ?_
  refine ct_put (v := .ref q3) (T := TX8) (N := 11) (k := 2) C0 rfl v_cok_X8 (by decide) tyX8_ok (htB _ (sm_b1 92 rfl rfl)) rfl rfl rfl rfl hP hD hS rfl (Nat.le_of_ble_eq_true rfl) dX8_init_25 (fun H locs hP hD hS => ?_)
  have hP : va_P D vwCl [(h0, .inr (8, [.ref q1, .ref q2, .ref q3, .null, .null, .null, .null, .null, .null, .int 0, .int 0])), (q1, .inl (cA 1, 60, .inl (fun _ => 0))), (q2, .inl (cA 1, 60, .inl (fun _ => 0))), (q3, .inl (cA 2, 60, .inl (fun _ => 0)))] H := hP
  have hD : va_D A [(h0, .inr (8, [.ref q1, .ref q2, .ref q3, .null, .null, .null, .null, .null, .null, .int 0, .int 0])), (q1, .inl (cA 1, 60, .inl (fun _ => 0))), (q2, .inl (cA 1, 60, .inl (fun _ => 0))), (q3, .inl (cA 2, 60, .inl (fun _ => 0)))] := hD
  refine lv_aload_n hx hb dX8_init_28 rfl (lv_at hl 0 rfl) ?_
  refine lv_bipush (v := 60) hx hb dX8_init_29 (by decide) ?_
  refine ct_I C0 (n := 60) (N := 60) (by decide) rfl (Nat.le_of_ble_eq_true rfl) (Nat.le_of_ble_eq_true rfl) (Nat.le_of_ble_eq_true rfl) hP hD hS dX8_init_31 (fun q4 H hP hD hS => ?_)
  have hP : va_P D vwCl [(h0, .inr (8, [.ref q1, .ref q2, .ref q3, .null, .null, .null, .null, .null, .null, .int 0, .int 0])), (q1, .inl (cA 1, 60, .inl (fun _ => 0))), (q2, .inl (cA 1, 60, .inl (fun _ => 0))), (q3, .inl (cA 2, 60, .inl (fun _ => 0))), (q4, .inl (cA 1, 60, .inl (fun _ => 0)))] H := hP
  have hD : va_D A [(h0, .inr (8, [.ref q1, .ref q2, .ref q3, .null, .null, .null, .null, .null, .null, .int 0, .int 0])), (q1, .inl (cA 1, 60, .inl (fun _ => 0))), (q2, .inl (cA 1, 60, .inl (fun _ => 0))), (q3, .inl (cA 2, 60, .inl (fun _ => 0))), (q4, .inl (cA 1, 60, .inl (fun _ => 0)))] := hD
  refine W.widen (k := 4) (n := 240) (Nat.le_of_ble_eq_true rfl) (Nat.le_of_ble_eq_true rfl) ?_
  refine ct_put (v := .ref q4) (T := TX8) (N := 11) (k := 3) C0 rfl v_cok_X8 (by decide) tyX8_ok (htB _ (sm_b1 93 rfl rfl)) rfl rfl rfl rfl hP hD hS rfl (Nat.le_of_ble_eq_true rfl) dX8_init_33 (fun H locs hP hD hS => ?_)
  have hP : va_P D vwCl [(h0, .inr (8, [.ref q1, .ref q2, .ref q3, .ref q4, .null, .null, .null, .null, .null, .int 0, .int 0])), (q1, .inl (cA 1, 60, .inl (fun _ => 0))), (q2, .inl (cA 1, 60, .inl (fun _ => 0))), (q3, .inl (cA 2, 60, .inl (fun _ => 0))), (q4, .inl (cA 1, 60, .inl (fun _ => 0)))] H := hP
  have hD : va_D A [(h0, .inr (8, [.ref q1, .ref q2, .ref q3, .ref q4, .null, .null, .null, .null, .null, .int 0, .int 0])), (q1, .inl (cA 1, 60, .inl (fun _ => 0))), (q2, .inl (cA 1, 60, .inl (fun _ => 0))), (q3, .inl (cA 2, 60, .inl (fun _ => 0))), (q4, .inl (cA 1, 60, .inl (fun _ => 0)))] := hD
  refine lv_aload_n hx hb dX8_init_36 rfl (lv_at hl 0 rfl) ?_
  refine lv_bipush (v := 60) hx hb dX8_init_37 (by decide) ?_
  refine ct_I C0 (n := 60) (N := 60) (by decide) rfl (Nat.le_of_ble_eq_true rfl) (Nat.le_of_ble_eq_true rfl) (Nat.le_of_ble_eq_true rfl) hP hD hS dX8_init_39 (fun q5 H hP hD hS => ?_)
  have hP : va_P D vwCl [(h0, .inr (8, [.ref q1, .ref q2, .ref q3, .ref q4, .null, .null, .null, .null, .null, .int 0, .int 0])), (q1, .inl (cA 1, 60, .inl (fun _ => 0))), (q2, .inl (cA 1, 60, .inl (fun _ => 0))), (q3, .inl (cA 2, 60, .inl (fun _ => 0))), (q4, .inl (cA 1, 60, .inl (fun _ => 0))), (q5, .inl (cA 1, 60, .inl (fun _ => 0)))] H := hP
  have hD : va_D A [(h0, .inr (8, [.ref q1, .ref q2, .ref q3, .ref q4, .null, .null, .null, .null, .null, .int 0, .int 0])), (q1, .inl (cA 1, 60, .inl (fun _ => 0))), (q2, .inl (cA 1, 60, .inl (fun _ => 0))), (q3, .inl (cA 2, 60, .inl (fun _ => 0))), (q4, .inl (cA 1, 60, .inl (fun _ => 0))), (q5, .inl (cA 1, 60, .inl (fun _ => 0)))] := hD
  refine W.widen (k := 5) (n := 300) (Nat.le_of_ble_eq_true rfl) (Nat.le_of_ble_eq_true rfl) ?_
  refine ct_put (v := .ref q5) (T := TX8) (N := 11) (k := 4) C0 rfl v_cok_X8 (by decide) tyX8_ok (htB _ (sm_b1 94 rfl rfl)) rfl rfl rfl rfl hP hD hS rfl (Nat.le_of_ble_eq_true rfl) dX8_init_41 (fun H locs hP hD hS => ?_)
  have hP : va_P D vwCl [(h0, .inr (8, [.ref q1, .ref q2, .ref q3, .ref q4, .ref q5, .null, .null, .null, .null, .int 0, .int 0])), (q1, .inl (cA 1, 60, .inl (fun _ => 0))), (q2, .inl (cA 1, 60, .inl (fun _ => 0))), (q3, .inl (cA 2, 60, .inl (fun _ => 0))), (q4, .inl (cA 1, 60, .inl (fun _ => 0))), (q5, .inl (cA 1, 60, .inl (fun _ => 0)))] H := hP
  have hD : va_D A [(h0, .inr (8, [.ref q1, .ref q2, .ref q3, .ref q4, .ref q5, .null, .null, .null, .null, .int 0, .int 0])), (q1, .inl (cA 1, 60, .inl (fun _ => 0))), (q2, .inl (cA 1, 60, .inl (fun _ => 0))), (q3, .inl (cA 2, 60, .inl (fun _ => 0))), (q4, .inl (cA 1, 60, .inl (fun _ => 0))), (q5, .inl (cA 1, 60, .inl (fun _ => 0)))] := hD
  refine lv_aload_n hx hb dX8_init_44 rfl (lv_at hl 0 rfl) ?_
  refine lv_bipush (v := 60) hx hb dX8_init_45 (by decide) ?_
  refine ct_I C0 (n := 60) (N := 60) (by decide) rfl (Nat.le_of_ble_eq_true rfl) (Nat.le_of_ble_eq_true rfl) (Nat.le_of_ble_eq_true rfl) hP hD hS dX8_init_47 (fun q6 H hP hD hS => ?_)
  have hP : va_P D vwCl [(h0, .inr (8, [.ref q1, .ref q2, .ref q3, .ref q4, .ref q5, .null, .null, .null, .null, .int 0, .int 0])), (q1, .inl (cA 1, 60, .inl (fun _ => 0))), (q2, .inl (cA 1, 60, .inl (fun _ => 0))), (q3, .inl (cA 2, 60, .inl (fun _ => 0))), (q4, .inl (cA 1, 60, .inl (fun _ => 0))), (q5, .inl (cA 1, 60, .inl (fun _ => 0))), (q6, .inl (cA 1, 60, .inl (fun _ => 0)))] H := hP
  have hD : va_D A [(h0, .inr (8, [.ref q1, .ref q2, .ref q3, .ref q4, .ref q5, .null, .null, .null, .null, .int 0, .int 0])), (q1, .inl (cA 1, 60, .inl (fun _ => 0))), (q2, .inl (cA 1, 60, .inl (fun _ => 0))), (q3, .inl (cA 2, 60, .inl (fun _ => 0))), (q4, .inl (cA 1, 60, .inl (fun _ => 0))), (q5, .inl (cA 1, 60, .inl (fun _ => 0))), (q6, .inl (cA 1, 60, .inl (fun _ => 0)))] := hD
  refine W.widen (k := 6) (n := 360) (Nat.le_of_ble_eq_true rfl) (Nat.le_of_ble_eq_true rfl) ?_
  refine ct_put (v := .ref q6) (T := TX8) (N := 11) (k := 5) C0 rfl v_cok_X8 (by decide) tyX8_ok (htB _ (sm_b1 95 rfl rfl)) rfl rfl rfl rfl hP hD hS rfl (Nat.le_of_ble_eq_true rfl) dX8_init_49 (fun H locs hP hD hS => ?_)
  have hP : va_P D vwCl [(h0, .inr (8, [.ref q1, .ref q2, .ref q3, .ref q4, .ref q5, .ref q6, .null, .null, .null, .int 0, .int 0])), (q1, .inl (cA 1, 60, .inl (fun _ => 0))), (q2, .inl (cA 1, 60, .inl (fun _ => 0))), (q3, .inl (cA 2, 60, .inl (fun _ => 0))), (q4, .inl (cA 1, 60, .inl (fun _ => 0))), (q5, .inl (cA 1, 60, .inl (fun _ => 0))), (q6, .inl (cA 1, 60, .inl (fun _ => 0)))] H := hP
  have hD : va_D A [(h0, .inr (8, [.ref q1, .ref q2, .ref q3, .ref q4, .ref q5, .ref q6, .null, .null, .null, .int 0, .int 0])), (q1, .inl (cA 1, 60, .inl (fun _ => 0))), (q2, .inl (cA 1, 60, .inl (fun _ => 0))), (q3, .inl (cA 2, 60, .inl (fun _ => 0))), (q4, .inl (cA 1, 60, .inl (fun _ => 0))), (q5, .inl (cA 1, 60, .inl (fun _ => 0))), (q6, .inl (cA 1, 60, .inl (fun _ => 0)))] := hD
  refine lv_aload_n hx hb dX8_init_52 rfl (lv_at hl 0 rfl) ?_
  refine lv_bipush (v := 60) hx hb dX8_init_53 (by decide) ?_
  refine ct_I C0 (n := 60) (N := 60) (by decide) rfl (Nat.le_of_ble_eq_true rfl) (Nat.le_of_ble_eq_true rfl) (Nat.le_of_ble_eq_true rfl) hP hD hS dX8_init_55 (fun q7 H hP hD hS => ?_)
  have hP : va_P D vwCl [(h0, .inr (8, [.ref q1, .ref q2, .ref q3, .ref q4, .ref q5, .ref q6, .null, .null, .null, .int 0, .int 0])), (q1, .inl (cA 1, 60, .inl (fun _ => 0))), (q2, .inl (cA 1, 60, .inl (fun _ => 0))), (q3, .inl (cA 2, 60, .inl (fun _ => 0))), (q4, .inl (cA 1, 60, .inl (fun _ => 0))), (q5, .inl (cA 1, 60, .inl (fun _ => 0))), (q6, .inl (cA 1, 60, .inl (fun _ => 0))), (q7, .inl (cA 1, 60, .inl (fun _ => 0)))] H := hP
  have hD : va_D A [(h0, .inr (8, [.ref q1, .ref q2, .ref q3, .ref q4, .ref q5, .ref q6, .null, .null, .null, .int 0, .int 0])), (q1, .inl (cA 1, 60, .inl (fun _ => 0))), (q2, .inl (cA 1, 60, .inl (fun _ => 0))), (q3, .inl (cA 2, 60, .inl (fun _ => 0))), (q4, .inl (cA 1, 60, .inl (fun _ => 0))), (q5, .inl (cA 1, 60, .inl (fun _ => 0))), (q6, .inl (cA 1, 60, .inl (fun _ => 0))), (q7, .inl (cA 1, 60, .inl (fun _ => 0)))] := hD
  refine W.widen (k := 7) (n := 420) (Nat.le_of_ble_eq_true rfl) (Nat.le_of_ble_eq_true rfl) ?_
  refine ct_put (v := .ref q7) (T := TX8) (N := 11) (k := 6) C0 rfl v_cok_X8 (by decide) tyX8_ok (htB _ (sm_b1 96 rfl rfl)) rfl rfl rfl rfl hP hD hS rfl (Nat.le_of_ble_eq_true rfl) dX8_init_57 (fun H locs hP hD hS => ?_)
  have hP : va_P D vwCl [(h0, .inr (8, [.ref q1, .ref q2, .ref q3, .ref q4, .ref q5, .ref q6, .ref q7, .null, .null, .int 0, .int 0])), (q1, .inl (cA 1, 60, .inl (fun _ => 0))), (q2, .inl (cA 1, 60, .inl (fun _ => 0))), (q3, .inl (cA 2, 60, .inl (fun _ => 0))), (q4, .inl (cA 1, 60, .inl (fun _ => 0))), (q5, .inl (cA 1, 60, .inl (fun _ => 0))), (q6, .inl (cA 1, 60, .inl (fun _ => 0))), (q7, .inl (cA 1, 60, .inl (fun _ => 0)))] H := hP
  have hD : va_D A [(h0, .inr (8, [.ref q1, .ref q2, .ref q3, .ref q4, .ref q5, .ref q6, .ref q7, .null, .null, .int 0, .int 0])), (q1, .inl (cA 1, 60, .inl (fun _ => 0))), (q2, .inl (cA 1, 60, .inl (fun _ => 0))), (q3, .inl (cA 2, 60, .inl (fun _ => 0))), (q4, .inl (cA 1, 60, .inl (fun _ => 0))), (q5, .inl (cA 1, 60, .inl (fun _ => 0))), (q6, .inl (cA 1, 60, .inl (fun _ => 0))), (q7, .inl (cA 1, 60, .inl (fun _ => 0)))] := hD
  refine lv_aload_n hx hb dX8_init_60 rfl (lv_at hl 0 rfl) ?_
  refine lv_bipush (v := 60) hx hb dX8_init_61 (by decide) ?_
  refine ct_I C0 (n := 60) (N := 60) (by decide) rfl (Nat.le_of_ble_eq_true rfl) (Nat.le_of_ble_eq_true rfl) (Nat.le_of_ble_eq_true rfl) hP hD hS dX8_init_63 (fun q8 H hP hD hS => ?_)
  have hP : va_P D vwCl [(h0, .inr (8, [.ref q1, .ref q2, .ref q3, .ref q4, .ref q5, .ref q6, .ref q7, .null, .null, .int 0, .int 0])), (q1, .inl (cA 1, 60, .inl (fun _ => 0))), (q2, .inl (cA 1, 60, .inl (fun _ => 0))), (q3, .inl (cA 2, 60, .inl (fun _ => 0))), (q4, .inl (cA 1, 60, .inl (fun _ => 0))), (q5, .inl (cA 1, 60, .inl (fun _ => 0))), (q6, .inl (cA 1, 60, .inl (fun _ => 0))), (q7, .inl (cA 1, 60, .inl (fun _ => 0))), (q8, .inl (cA 1, 60, .inl (fun _ => 0)))] H := hP
  have hD : va_D A [(h0, .inr (8, [.ref q1, .ref q2, .ref q3, .ref q4, .ref q5, .ref q6, .ref q7, .null, .null, .int 0, .int 0])), (q1, .inl (cA 1, 60, .inl (fun _ => 0))), (q2, .inl (cA 1, 60, .inl (fun _ => 0))), (q3, .inl (cA 2, 60, .inl (fun _ => 0))), (q4, .inl (cA 1, 60, .inl (fun _ => 0))), (q5, .inl (cA 1, 60, .inl (fun _ => 0))), (q6, .inl (cA 1, 60, .inl (fun _ => 0))), (q7, .inl (cA 1, 60, .inl (fun _ => 0))), (q8, .inl (cA 1, 60, .inl (fun _ => 0)))] := hD
  refine W.widen (k := 8) (n := 480) (Nat.le_of_ble_eq_true rfl) (Nat.le_of_ble_eq_true rfl) ?_
  refine ct_put (v := .ref q8) (T := TX8) (N := 11) (k := 7) C0 rfl v_cok_X8 (by decide) tyX8_ok (htB _ (sm_b1 97 rfl rfl)) rfl rfl rfl rfl hP hD hS rfl (Nat.le_of_ble_eq_true rfl) dX8_init_65 (fun H locs hP hD hS => ?_)
  have hP : va_P D vwCl [(h0, .inr (8, [.ref q1, .ref q2, .ref q3, .ref q4, .ref q5, .ref q6, .ref q7, .ref q8, .null, .int 0, .int 0])), (q1, .inl (cA 1, 60, .inl (fun _ => 0))), (q2, .inl (cA 1, 60, .inl (fun _ => 0))), (q3, .inl (cA 2, 60, .inl (fun _ => 0))), (q4, .inl (cA 1, 60, .inl (fun _ => 0))), (q5, .inl (cA 1, 60, .inl (fun _ => 0))), (q6, .inl (cA 1, 60, .inl (fun _ => 0))), (q7, .inl (cA 1, 60, .inl (fun _ => 0))), (q8, .inl (cA 1, 60, .inl (fun _ => 0)))] H := hP
  have hD : va_D A [(h0, .inr (8, [.ref q1, .ref q2, .ref q3, .ref q4, .ref q5, .ref q6, .ref q7, .ref q8, .null, .int 0, .int 0])), (q1, .inl (cA 1, 60, .inl (fun _ => 0))), (q2, .inl (cA 1, 60, .inl (fun _ => 0))), (q3, .inl (cA 2, 60, .inl (fun _ => 0))), (q4, .inl (cA 1, 60, .inl (fun _ => 0))), (q5, .inl (cA 1, 60, .inl (fun _ => 0))), (q6, .inl (cA 1, 60, .inl (fun _ => 0))), (q7, .inl (cA 1, 60, .inl (fun _ => 0))), (q8, .inl (cA 1, 60, .inl (fun _ => 0)))] := hD
  refine lv_aload_n hx hb dX8_init_68 rfl (lv_at hl 0 rfl) ?_
  refine lv_bipush (v := 60) hx hb dX8_init_69 (by decide) ?_
  refine ct_I C0 (n := 60) (N := 60) (by decide) rfl (Nat.le_of_ble_eq_true rfl) (Nat.le_of_ble_eq_true rfl) (Nat.le_of_ble_eq_true rfl) hP hD hS dX8_init_71 (fun q9 H hP hD hS => ?_)
  have hP : va_P D vwCl [(h0, .inr (8, [.ref q1, .ref q2, .ref q3, .ref q4, .ref q5, .ref q6, .ref q7, .ref q8, .null, .int 0, .int 0])), (q1, .inl (cA 1, 60, .inl (fun _ => 0))), (q2, .inl (cA 1, 60, .inl (fun _ => 0))), (q3, .inl (cA 2, 60, .inl (fun _ => 0))), (q4, .inl (cA 1, 60, .inl (fun _ => 0))), (q5, .inl (cA 1, 60, .inl (fun _ => 0))), (q6, .inl (cA 1, 60, .inl (fun _ => 0))), (q7, .inl (cA 1, 60, .inl (fun _ => 0))), (q8, .inl (cA 1, 60, .inl (fun _ => 0))), (q9, .inl (cA 1, 60, .inl (fun _ => 0)))] H := hP
  have hD : va_D A [(h0, .inr (8, [.ref q1, .ref q2, .ref q3, .ref q4, .ref q5, .ref q6, .ref q7, .ref q8, .null, .int 0, .int 0])), (q1, .inl (cA 1, 60, .inl (fun _ => 0))), (q2, .inl (cA 1, 60, .inl (fun _ => 0))), (q3, .inl (cA 2, 60, .inl (fun _ => 0))), (q4, .inl (cA 1, 60, .inl (fun _ => 0))), (q5, .inl (cA 1, 60, .inl (fun _ => 0))), (q6, .inl (cA 1, 60, .inl (fun _ => 0))), (q7, .inl (cA 1, 60, .inl (fun _ => 0))), (q8, .inl (cA 1, 60, .inl (fun _ => 0))), (q9, .inl (cA 1, 60, .inl (fun _ => 0)))] := hD
  refine W.widen (k := 9) (n := 540) (Nat.le_of_ble_eq_true rfl) (Nat.le_of_ble_eq_true rfl) ?_
  refine ct_put (v := .ref q9) (T := TX8) (N := 11) (k := 8) C0 rfl v_cok_X8 (by decide) tyX8_ok (htB _ (sm_b1 98 rfl rfl)) rfl rfl rfl rfl hP hD hS rfl (Nat.le_of_ble_eq_true rfl) dX8_init_73 (fun H locs hP hD hS => ?_)
  have hP : va_P D vwCl [(h0, .inr (8, [.ref q1, .ref q2, .ref q3, .ref q4, .ref q5, .ref q6, .ref q7, .ref q8, .ref q9, .int 0, .int 0])), (q1, .inl (cA 1, 60, .inl (fun _ => 0))), (q2, .inl (cA 1, 60, .inl (fun _ => 0))), (q3, .inl (cA 2, 60, .inl (fun _ => 0))), (q4, .inl (cA 1, 60, .inl (fun _ => 0))), (q5, .inl (cA 1, 60, .inl (fun _ => 0))), (q6, .inl (cA 1, 60, .inl (fun _ => 0))), (q7, .inl (cA 1, 60, .inl (fun _ => 0))), (q8, .inl (cA 1, 60, .inl (fun _ => 0))), (q9, .inl (cA 1, 60, .inl (fun _ => 0)))] H := hP
  have hD : va_D A [(h0, .inr (8, [.ref q1, .ref q2, .ref q3, .ref q4, .ref q5, .ref q6, .ref q7, .ref q8, .ref q9, .int 0, .int 0])), (q1, .inl (cA 1, 60, .inl (fun _ => 0))), (q2, .inl (cA 1, 60, .inl (fun _ => 0))), (q3, .inl (cA 2, 60, .inl (fun _ => 0))), (q4, .inl (cA 1, 60, .inl (fun _ => 0))), (q5, .inl (cA 1, 60, .inl (fun _ => 0))), (q6, .inl (cA 1, 60, .inl (fun _ => 0))), (q7, .inl (cA 1, 60, .inl (fun _ => 0))), (q8, .inl (cA 1, 60, .inl (fun _ => 0))), (q9, .inl (cA 1, 60, .inl (fun _ => 0)))] := hD
  refine lv_aload_n hx hb dX8_init_76 rfl (lv_at hl 0 rfl) ?_
  refine lv_iconst (v := 0) hx hb dX8_init_77 (by decide) ?_
  refine ct_puti (v := .int 0) (T := TX8) (N := 11) (k := 9) C0 rfl v_cok_X8 (by decide) tyX8_ok (htB _ (sm_b1 99 rfl rfl)) rfl rfl rfl rfl hP hD hS rfl (Nat.le_of_ble_eq_true rfl) dX8_init_78 (fun H locs hP hD hS => ?_)
  have hP : va_P D vwCl [(h0, .inr (8, [.ref q1, .ref q2, .ref q3, .ref q4, .ref q5, .ref q6, .ref q7, .ref q8, .ref q9, .int 0, .int 0])), (q1, .inl (cA 1, 60, .inl (fun _ => 0))), (q2, .inl (cA 1, 60, .inl (fun _ => 0))), (q3, .inl (cA 2, 60, .inl (fun _ => 0))), (q4, .inl (cA 1, 60, .inl (fun _ => 0))), (q5, .inl (cA 1, 60, .inl (fun _ => 0))), (q6, .inl (cA 1, 60, .inl (fun _ => 0))), (q7, .inl (cA 1, 60, .inl (fun _ => 0))), (q8, .inl (cA 1, 60, .inl (fun _ => 0))), (q9, .inl (cA 1, 60, .inl (fun _ => 0)))] H := hP
  have hD : va_D A [(h0, .inr (8, [.ref q1, .ref q2, .ref q3, .ref q4, .ref q5, .ref q6, .ref q7, .ref q8, .ref q9, .int 0, .int 0])), (q1, .inl (cA 1, 60, .inl (fun _ => 0))), (q2, .inl (cA 1, 60, .inl (fun _ => 0))), (q3, .inl (cA 2, 60, .inl (fun _ => 0))), (q4, .inl (cA 1, 60, .inl (fun _ => 0))), (q5, .inl (cA 1, 60, .inl (fun _ => 0))), (q6, .inl (cA 1, 60, .inl (fun _ => 0))), (q7, .inl (cA 1, 60, .inl (fun _ => 0))), (q8, .inl (cA 1, 60, .inl (fun _ => 0))), (q9, .inl (cA 1, 60, .inl (fun _ => 0)))] := hD
  refine lv_aload_n hx hb dX8_init_81 rfl (lv_at hl 0 rfl) ?_
  refine lv_iconst (v := 0) hx hb dX8_init_82 (by decide) ?_
  refine ct_puti (v := .int 0) (T := TX8) (N := 11) (k := 10) C0 rfl v_cok_X8 (by decide) tyX8_ok (htB _ (sm_b1 100 rfl rfl)) rfl rfl rfl rfl hP hD hS rfl (Nat.le_of_ble_eq_true rfl) dX8_init_83 (fun H locs hP hD hS => ?_)
  have hP : va_P D vwCl [(h0, .inr (8, [.ref q1, .ref q2, .ref q3, .ref q4, .ref q5, .ref q6, .ref q7, .ref q8, .ref q9, .int 0, .int 0])), (q1, .inl (cA 1, 60, .inl (fun _ => 0))), (q2, .inl (cA 1, 60, .inl (fun _ => 0))), (q3, .inl (cA 2, 60, .inl (fun _ => 0))), (q4, .inl (cA 1, 60, .inl (fun _ => 0))), (q5, .inl (cA 1, 60, .inl (fun _ => 0))), (q6, .inl (cA 1, 60, .inl (fun _ => 0))), (q7, .inl (cA 1, 60, .inl (fun _ => 0))), (q8, .inl (cA 1, 60, .inl (fun _ => 0))), (q9, .inl (cA 1, 60, .inl (fun _ => 0)))] H := hP
  have hD : va_D A [(h0, .inr (8, [.ref q1, .ref q2, .ref q3, .ref q4, .ref q5, .ref q6, .ref q7, .ref q8, .ref q9, .int 0, .int 0])), (q1, .inl (cA 1, 60, .inl (fun _ => 0))), (q2, .inl (cA 1, 60, .inl (fun _ => 0))), (q3, .inl (cA 2, 60, .inl (fun _ => 0))), (q4, .inl (cA 1, 60, .inl (fun _ => 0))), (q5, .inl (cA 1, 60, .inl (fun _ => 0))), (q6, .inl (cA 1, 60, .inl (fun _ => 0))), (q7, .inl (cA 1, 60, .inl (fun _ => 0))), (q8, .inl (cA 1, 60, .inl (fun _ => 0))), (q9, .inl (cA 1, 60, .inl (fun _ => 0)))] := hD
  exact W.vret hx hb hr (fun t ht hW => ⟨⟨((fun i => [q1, q2, q3, q4, q5, q6, q7, q8, q9].getD i 0), (fun i => [].getD i (fun _ => 0))), rfl, trivial, by rw [ht]; exact hP, hD⟩, hS.F ht⟩) hS.2.2 dX8_init_86
theorem dX2_init_0 : decode cX2_init 0 = .ok (.aload_n 0, 1) := by decide +kernel
theorem dX2_init_1 : decode cX2_init 1 = .ok (.invokespecial 3, 3) := by decide +kernel
theorem dX2_init_4 : decode cX2_init 4 = .ok (.aload_n 0, 1) := by decide +kernel
theorem dX2_init_5 : decode cX2_init 5 = .ok (.bipush 100, 2) := by decide +kernel
theorem dX2_init_7 : decode cX2_init 7 = .ok (.newarray .int, 2) := by decide +kernel
theorem dX2_init_9 : decode cX2_init 9 = .ok (.putfield 9, 3) := by decide +kernel
theorem dX2_init_12 : decode cX2_init 12 = .ok (.aload_n 0, 1) := by decide +kernel
theorem dX2_init_13 : decode cX2_init 13 = .ok (.bipush 100, 2) := by decide +kernel
theorem dX2_init_15 : decode cX2_init 15 = .ok (.newarray .int, 2) := by decide +kernel
theorem dX2_init_17 : decode cX2_init 17 = .ok (.putfield 15, 3) := by decide +kernel
theorem dX2_init_20 : decode cX2_init 20 = .ok (.aload_n 0, 1) := by decide +kernel
theorem dX2_init_21 : decode cX2_init 21 = .ok (.bipush 100, 2) := by decide +kernel
theorem dX2_init_23 : decode cX2_init 23 = .ok (.newarray .int, 2) := by decide +kernel
theorem dX2_init_25 : decode cX2_init 25 = .ok (.putfield 18, 3) := by decide +kernel
theorem dX2_init_28 : decode cX2_init 28 = .ok (.aload_n 0, 1) := by decide +kernel
theorem dX2_init_29 : decode cX2_init 29 = .ok (.bipush 100, 2) := by decide +kernel
theorem dX2_init_31 : decode cX2_init 31 = .ok (.newarray .boolean, 2) := by decide +kernel
theorem dX2_init_33 : decode cX2_init 33 = .ok (.putfield 21, 3) := by decide +kernel
theorem dX2_init_36 : decode cX2_init 36 = .ok (.aload_n 0, 1) := by decide +kernel
theorem dX2_init_37 : decode cX2_init 37 = .ok (.bipush 60, 2) := by decide +kernel
theorem dX2_init_39 : decode cX2_init 39 = .ok (.newarray .int, 2) := by decide +kernel
theorem dX2_init_41 : decode cX2_init 41 = .ok (.putfield 25, 3) := by decide +kernel
theorem dX2_init_44 : decode cX2_init 44 = .ok (.aload_n 0, 1) := by decide +kernel
theorem dX2_init_45 : decode cX2_init 45 = .ok (.iconst 0, 1) := by decide +kernel
theorem dX2_init_46 : decode cX2_init 46 = .ok (.putfield 28, 3) := by decide +kernel
theorem dX2_init_49 : decode cX2_init 49 = .ok (.return_, 1) := by decide +kernel
theorem mok_X2_init : sm_mok (yX2_init, cX2_init, 1, none) := ⟨sm_b1 128 rfl rfl, sm_b1 6 rfl rfl, by decide +kernel, by decide +kernel, by decide +kernel, by decide⟩
set_option maxHeartbeats 4000000 in
set_option maxRecDepth 100000 in
theorem k_X2 (l : Launch) (D : va_G) (cA : Nat → ClassId) (h0 sz : Nat) : Met l yX2_init (Cond.code yX2_init cX2_init 1 none :: sm_BW) ({ frames := 1, cells := 5, slots := 460, locals := 40 }) (va_Pc [.ref h0] (ct_Pre D cA sz h0 2 [.null, .null, .null, .null, .null, .int 0])) (va_Qv (fun u : (Nat → Nat) × (Nat → Nat → Int32) => True) (fun u t => va_P D vwCl [(h0, .inr (2, [.ref (u.1 0), .ref (u.1 1), .ref (u.1 2), .ref (u.1 3), .ref (u.1 4), .int 0])), ((u.1 0), .inl (cA 1, 100, .inl (fun _ => 0))), ((u.1 1), .inl (cA 1, 100, .inl (fun _ => 0))), ((u.1 2), .inl (cA 1, 100, .inl (fun _ => 0))), ((u.1 3), .inl (cA 2, 100, .inl (fun _ => 0))), ((u.1 4), .inl (cA 1, 60, .inl (fun _ => 0)))] t.heap ∧ va_D (va_A [(h0, .inr (2, [.null, .null, .null, .null, .null, .int 0]))] sz) [(h0, .inr (2, [.ref (u.1 0), .ref (u.1 1), .ref (u.1 2), .ref (u.1 3), .ref (u.1 4), .int 0])), ((u.1 0), .inl (cA 1, 100, .inl (fun _ => 0))), ((u.1 1), .inl (cA 1, 100, .inl (fun _ => 0))), ((u.1 2), .inl (cA 1, 100, .inl (fun _ => 0))), ((u.1 3), .inl (cA 2, 100, .inl (fun _ => 0))), ((u.1 4), .inl (cA 1, 60, .inl (fun _ => 0)))]) (va_A [(h0, .inr (2, [.null, .null, .null, .null, .null, .int 0]))] sz)) 5 460 (va_A [(h0, .inr (2, [.null, .null, .null, .null, .null, .int 0]))] sz) := by
  refine Met.ofW (cc := cX2_init) (maxL := 1) (ret := none) (by decide) rfl ?_
  intro p e s m args below meth c s₁ B hml hv
  obtain ⟨rfl, hsz, hP, hK, hD0, hN⟩ := hv
  have hx := B.exec
  have hb := B.bytes
  have hr := B.returns
  have hts := atoms_spec (ws := Cond.code yX2_init cX2_init 1 none :: sm_BW) B.pre
  have htB : ∀ w ∈ sm_BW, w.before _ s = true := fun w hw => hts w (List.mem_cons_of_mem _ hw)
  have hown : s.vm.findClass RX2 = some m.cls := findClass_of_methodNamed B.named
  have hlocks := B.notSynchronized
  have hin : meth.name = "<init>" := (name_of_methodNamed B.named B.method).1
  subst hsz
  have hD := hD0.self (sz := s.heap.size)
  generalize hAe : va_A [(h0, .inr (2, [.null, .null, .null, .null, .null, .int 0]))] s.heap.size = A at hD ⊢
  have hA : ∀ q : Nat, s.heap.size ≤ q → A q := fun q h => by rw [← hAe]; exact Or.inr h
  have C0 : ct_ctx p s m _ meth c D cA A RX2 cX2_init := ⟨hx, hb, hown, htB, hK, hA, hin⟩
  have hS : va_S A s.heap s.heap [] := va_S.rf
  have hP : va_P D vwCl [(h0, .inr (2, [.null, .null, .null, .null, .null, .int 0]))] s.heap := hP
  have hl := lv_entry ([.ref h0]) (n := 1) (Nat.le_of_ble_eq_true rfl)
  rw [lg_entry_eq]
  generalize (lg_sl ([.ref h0]) ++ List.replicate (1 - (lg_sl ([.ref h0])).length) Slot.unset).toArray = ls at hl ⊢
  have hl : lv_has ls 1 [(0, .ref h0)] := hl
  refine lv_aload_n hx hb dX2_init_0 rfl (lv_at hl 0 rfl) ?_
  refine W.objInit hx hb hown (htB _ (sm_b1 129 rfl rfl)) (htB _ (sm_b1 25 rfl rfl)) (htB _ (sm_b1 26 rfl rfl)) rfl (by rw [hml]; exact hl.1) rfl dX2_init_1 (Nat.le_of_ble_eq_true rfl) (Nat.le_of_ble_eq_true rfl) ?_
  refine W.eq (g2 := F0 m 4 ls []) rfl ?_
  refine lv_aload_n hx hb dX2_init_4 rfl (lv_at hl 0 rfl) ?_
  refine lv_bipush (v := 100) hx hb dX2_init_5 (by decide) ?_
  refine ct_I C0 (n := 100) (N := 100) (by decide) rfl (Nat.le_of_ble_eq_true rfl) (Nat.le_of_ble_eq_true rfl) (Nat.le_of_ble_eq_true rfl) hP hD hS dX2_init_7 (fun q1 H hP hD hS => ?_)
  have hP : va_P D vwCl [(h0, .inr (2, [.null, .null, .null, .null, .null, .int 0])), (q1, .inl (cA 1, 100, .inl (fun _ => 0)))] H := hP
  have hD : va_D A [(h0, .inr (2, [.null, .null, .null, .null, .null, .int 0])), (q1, .inl (cA 1, 100, .inl (fun _ => 0)))] := hD
  refine W.widen (k := 1) (n := 100) (Nat.le_of_ble_eq_true rfl) (Nat.le_of_ble_eq_true rfl) ?_
  refine ct_put (v := .ref q1) (T := TX2) (N := 6) (k := 0) C0 rfl v_cok_X2 (by decide) tyX2_ok (htB _ (sm_b1 130 rfl rfl)) rfl rfl rfl rfl hP hD hS rfl (Nat.le_of_ble_eq_true rfl) dX2_init_9 (fun H locs hP hD hS => ?_)
  have hP : va_P D vwCl [(h0, .inr (2, [.ref q1, .null, .null, .null, .null, .int 0])), (q1, .inl (cA 1, 100, .inl (fun _ => 0)))] H := hP
  have hD : va_D A [(h0, .inr (2, [.ref q1, .null, .null, .null, .null, .int 0])), (q1, .inl (cA 1, 100, .inl (fun _ => 0)))] := hD
  refine lv_aload_n hx hb dX2_init_12 rfl (lv_at hl 0 rfl) ?_
  refine lv_bipush (v := 100) hx hb dX2_init_13 (by decide) ?_
  refine ct_I C0 (n := 100) (N := 100) (by decide) rfl (Nat.le_of_ble_eq_true rfl) (Nat.le_of_ble_eq_true rfl) (Nat.le_of_ble_eq_true rfl) hP hD hS dX2_init_15 (fun q2 H hP hD hS => ?_)
  have hP : va_P D vwCl [(h0, .inr (2, [.ref q1, .null, .null, .null, .null, .int 0])), (q1, .inl (cA 1, 100, .inl (fun _ => 0))), (q2, .inl (cA 1, 100, .inl (fun _ => 0)))] H := hP
  have hD : va_D A [(h0, .inr (2, [.ref q1, .null, .null, .null, .null, .int 0])), (q1, .inl (cA 1, 100, .inl (fun _ => 0))), (q2, .inl (cA 1, 100, .inl (fun _ => 0)))] := hD
  refine W.widen (k := 2) (n := 200) (Nat.le_of_ble_eq_true rfl) (Nat.le_of_ble_eq_true rfl) ?_
  refine ct_put (v := .ref q2) (T := TX2) (N := 6) (k := 1) C0 rfl v_cok_X2 (by decide) tyX2_ok (htB _ (sm_b1 131 rfl rfl)) rfl rfl rfl rfl hP hD hS rfl (Nat.le_of_ble_eq_true rfl) dX2_init_17 (fun H locs hP hD hS => ?_)
  have hP : va_P D vwCl [(h0, .inr (2, [.ref q1, .ref q2, .null, .null, .null, .int 0])), (q1, .inl (cA 1, 100, .inl (fun _ => 0))), (q2, .inl (cA 1, 100, .inl (fun _ => 0)))] H := hP
  have hD : va_D A [(h0, .inr (2, [.ref q1, .ref q2, .null, .null, .null, .int 0])), (q1, .inl (cA 1, 100, .inl (fun _ => 0))), (q2, .inl (cA 1, 100, .inl (fun _ => 0)))] := hD
  refine lv_aload_n hx hb dX2_init_20 rfl (lv_at hl 0 rfl) ?_
  refine lv_bipush (v := 100) hx hb dX2_init_21 (by decide) ?_
  refine ct_I C0 (n := 100) (N := 100) (by decide) rfl (Nat.le_of_ble_eq_true rfl) (Nat.le_of_ble_eq_true rfl) (Nat.le_of_ble_eq_true rfl) hP hD hS dX2_init_23 (fun q3 H hP hD hS => ?_)
  have hP : va_P D vwCl [(h0, .inr (2, [.ref q1, .ref q2, .null, .null, .null, .int 0])), (q1, .inl (cA 1, 100, .inl (fun _ => 0))), (q2, .inl (cA 1, 100, .inl (fun _ => 0))), (q3, .inl (cA 1, 100, .inl (fun _ => 0)))] H := hP
  have hD : va_D A [(h0, .inr (2, [.ref q1, .ref q2, .null, .null, .null, .int 0])), (q1, .inl (cA 1, 100, .inl (fun _ => 0))), (q2, .inl (cA 1, 100, .inl (fun _ => 0))), (q3, .inl (cA 1, 100, .inl (fun _ => 0)))] := hD
  refine W.widen (k := 3) (n := 300) (Nat.le_of_ble_eq_true rfl) (Nat.le_of_ble_eq_true rfl) ?_
  refine ct_put (v := .ref q3) (T := TX2) (N := 6) (k := 2) C0 rfl v_cok_X2 (by decide) tyX2_ok (htB _ (sm_b1 132 rfl rfl)) rfl rfl rfl rfl hP hD hS rfl (Nat.le_of_ble_eq_true rfl) dX2_init_25 (fun H locs hP hD hS => ?_)
  have hP : va_P D vwCl [(h0, .inr (2, [.ref q1, .ref q2, .ref q3, .null, .null, .int 0])), (q1, .inl (cA 1, 100, .inl (fun _ => 0))), (q2, .inl (cA 1, 100, .inl (fun _ => 0))), (q3, .inl (cA 1, 100, .inl (fun _ => 0)))] H := hP
  have hD : va_D A [(h0, .inr (2, [.ref q1, .ref q2, .ref q3, .null, .null, .int 0])), (q1, .inl (cA 1, 100, .inl (fun _ => 0))), (q2, .inl (cA 1, 100, .inl (fun _ => 0))), (q3, .inl (cA 1, 100, .inl (fun _ => 0)))] := hD
  refine lv_aload_n hx hb dX2_init_28 rfl (lv_at hl 0 rfl) ?_
  refine lv_bipush (v := 100) hx hb dX2_init_29 (by decide) ?_
  refine ct_Z C0 (n := 100) (N := 100) (by decide) rfl (Nat.le_of_ble_eq_true rfl) (Nat.le_of_ble_eq_true rfl) (Nat.le_of_ble_eq_true rfl) hP hD hS dX2_init_31 (fun q4 H hP hD hS => ?_)
  have hP : va_P D vwCl [(h0, .inr (2, [.ref q1, .ref q2, .ref q3, .null, .null, .int 0])), (q1, .inl (cA 1, 100, .inl (fun _ => 0))), (q2, .inl (cA 1, 100, .inl (fun _ => 0))), (q3, .inl (cA 1, 100, .inl (fun _ => 0))), (q4, .inl (cA 2, 100, .inl (fun _ => 0)))] H := hP
  have hD : va_D A [(h0, .inr (2, [.ref q1, .ref q2, .ref q3, .null, .null, .int 0])), (q1, .inl (cA 1, 100, .inl (fun _ => 0))), (q2, .inl (cA 1, 100, .inl (fun _ => 0))), (q3, .inl (cA 1, 100, .inl (fun _ => 0))), (q4, .inl (cA 2, 100, .inl (fun _ => 0)))] := hD
  refine W.widen (k := 4) (n := 400) (Nat.le_of_ble_eq_true rfl) (Nat.le_of_ble_eq_true rfl) ?_
  refine ct_put (v := .ref q4) (T := TX2) (N := 6) (k := 3) C0 rfl v_cok_X2 (by decide) tyX2_ok (htB _ (sm_b1 133 rfl rfl)) rfl rfl rfl rfl hP hD hS rfl (Nat.le_of_ble_eq_true rfl) dX2_init_33 (fun H locs hP hD hS => ?_)
  have hP : va_P D vwCl [(h0, .inr (2, [.ref q1, .ref q2, .ref q3, .ref q4, .null, .int 0])), (q1, .inl (cA 1, 100, .inl (fun _ => 0))), (q2, .inl (cA 1, 100, .inl (fun _ => 0))), (q3, .inl (cA 1, 100, .inl (fun _ => 0))), (q4, .inl (cA 2, 100, .inl (fun _ => 0)))] H := hP
  have hD : va_D A [(h0, .inr (2, [.ref q1, .ref q2, .ref q3, .ref q4, .null, .int 0])), (q1, .inl (cA 1, 100, .inl (fun _ => 0))), (q2, .inl (cA 1, 100, .inl (fun _ => 0))), (q3, .inl (cA 1, 100, .inl (fun _ => 0))), (q4, .inl (cA 2, 100, .inl (fun _ => 0)))] := hD
  refine lv_aload_n hx hb dX2_init_36 rfl (lv_at hl 0 rfl) ?_
  refine lv_bipush (v := 60) hx hb dX2_init_37 (by decide) ?_
  refine ct_I C0 (n := 60) (N := 60) (by decide) rfl (Nat.le_of_ble_eq_true rfl) (Nat.le_of_ble_eq_true rfl) (Nat.le_of_ble_eq_true rfl) hP hD hS dX2_init_39 (fun q5 H hP hD hS => ?_)
  have hP : va_P D vwCl [(h0, .inr (2, [.ref q1, .ref q2, .ref q3, .ref q4, .null, .int 0])), (q1, .inl (cA 1, 100, .inl (fun _ => 0))), (q2, .inl (cA 1, 100, .inl (fun _ => 0))), (q3, .inl (cA 1, 100, .inl (fun _ => 0))), (q4, .inl (cA 2, 100, .inl (fun _ => 0))), (q5, .inl (cA 1, 60, .inl (fun _ => 0)))] H := hP
  have hD : va_D A [(h0, .inr (2, [.ref q1, .ref q2, .ref q3, .ref q4, .null, .int 0])), (q1, .inl (cA 1, 100, .inl (fun _ => 0))), (q2, .inl (cA 1, 100, .inl (fun _ => 0))), (q3, .inl (cA 1, 100, .inl (fun _ => 0))), (q4, .inl (cA 2, 100, .inl (fun _ => 0))), (q5, .inl (cA 1, 60, .inl (fun _ => 0)))] := hD
  refine W.widen (k := 5) (n := 460) (Nat.le_of_ble_eq_true rfl) (Nat.le_of_ble_eq_true rfl) ?_
  refine ct_put (v := .ref q5) (T := TX2) (N := 6) (k := 4) C0 rfl v_cok_X2 (by decide) tyX2_ok (htB _ (sm_b1 134 rfl rfl)) rfl rfl rfl rfl hP hD hS rfl (Nat.le_of_ble_eq_true rfl) dX2_init_41 (fun H locs hP hD hS => ?_)
  have hP : va_P D vwCl [(h0, .inr (2, [.ref q1, .ref q2, .ref q3, .ref q4, .ref q5, .int 0])), (q1, .inl (cA 1, 100, .inl (fun _ => 0))), (q2, .inl (cA 1, 100, .inl (fun _ => 0))), (q3, .inl (cA 1, 100, .inl (fun _ => 0))), (q4, .inl (cA 2, 100, .inl (fun _ => 0))), (q5, .inl (cA 1, 60, .inl (fun _ => 0)))] H := hP
  have hD : va_D A [(h0, .inr (2, [.ref q1, .ref q2, .ref q3, .ref q4, .ref q5, .int 0])), (q1, .inl (cA 1, 100, .inl (fun _ => 0))), (q2, .inl (cA 1, 100, .inl (fun _ => 0))), (q3, .inl (cA 1, 100, .inl (fun _ => 0))), (q4, .inl (cA 2, 100, .inl (fun _ => 0))), (q5, .inl (cA 1, 60, .inl (fun _ => 0)))] := hD
  refine lv_aload_n hx hb dX2_init_44 rfl (lv_at hl 0 rfl) ?_
  refine lv_iconst (v := 0) hx hb dX2_init_45 (by decide) ?_
  refine ct_puti (v := .int 0) (T := TX2) (N := 6) (k := 5) C0 rfl v_cok_X2 (by decide) tyX2_ok (htB _ (sm_b1 135 rfl rfl)) rfl rfl rfl rfl hP hD hS rfl (Nat.le_of_ble_eq_true rfl) dX2_init_46 (fun H locs hP hD hS => ?_)
  have hP : va_P D vwCl [(h0, .inr (2, [.ref q1, .ref q2, .ref q3, .ref q4, .ref q5, .int 0])), (q1, .inl (cA 1, 100, .inl (fun _ => 0))), (q2, .inl (cA 1, 100, .inl (fun _ => 0))), (q3, .inl (cA 1, 100, .inl (fun _ => 0))), (q4, .inl (cA 2, 100, .inl (fun _ => 0))), (q5, .inl (cA 1, 60, .inl (fun _ => 0)))] H := hP
  have hD : va_D A [(h0, .inr (2, [.ref q1, .ref q2, .ref q3, .ref q4, .ref q5, .int 0])), (q1, .inl (cA 1, 100, .inl (fun _ => 0))), (q2, .inl (cA 1, 100, .inl (fun _ => 0))), (q3, .inl (cA 1, 100, .inl (fun _ => 0))), (q4, .inl (cA 2, 100, .inl (fun _ => 0))), (q5, .inl (cA 1, 60, .inl (fun _ => 0)))] := hD
  exact W.vret hx hb hr (fun t ht hW => ⟨⟨((fun i => [q1, q2, q3, q4, q5].getD i 0), (fun i => [].getD i (fun _ => 0))), rfl, trivial, by rw [ht]; exact hP, hD⟩, hS.F ht⟩) hS.2.2 dX2_init_49
theorem dX4_init_0 : decode cX4_init 0 = .ok (.aload_n 0, 1) := by decide +kernel
theorem dX4_init_1 : decode cX4_init 1 = .ok (.invokespecial 3, 3) := by decide +kernel
theorem dX4_init_4 : decode cX4_init 4 = .ok (.aload_n 0, 1) := by decide +kernel
theorem dX4_init_5 : decode cX4_init 5 = .ok (.bipush 16, 2) := by decide +kernel
theorem dX4_init_7 : decode cX4_init 7 = .ok (.newarray .int, 2) := by decide +kernel
theorem dX4_init_9 : decode cX4_init 9 = .ok (.putfield 9, 3) := by decide +kernel
theorem dX4_init_12 : decode cX4_init 12 = .ok (.aload_n 0, 1) := by decide +kernel
theorem dX4_init_13 : decode cX4_init 13 = .ok (.aload_n 1, 1) := by decide +kernel
theorem dX4_init_14 : decode cX4_init 14 = .ok (.putfield 15, 3) := by decide +kernel
theorem dX4_init_17 : decode cX4_init 17 = .ok (.aload_n 0, 1) := by decide +kernel
theorem dX4_init_18 : decode cX4_init 18 = .ok (.aload_n 2, 1) := by decide +kernel
theorem dX4_init_19 : decode cX4_init 19 = .ok (.putfield 19, 3) := by decide +kernel
theorem dX4_init_22 : decode cX4_init 22 = .ok (.aload_n 0, 1) := by decide +kernel
theorem dX4_init_23 : decode cX4_init 23 = .ok (.aload_n 3, 1) := by decide +kernel
theorem dX4_init_24 : decode cX4_init 24 = .ok (.putfield 23, 3) := by decide +kernel
theorem dX4_init_27 : decode cX4_init 27 = .ok (.aload_n 0, 1) := by decide +kernel
theorem dX4_init_28 : decode cX4_init 28 = .ok (.aload 4, 2) := by decide +kernel
theorem dX4_init_30 : decode cX4_init 30 = .ok (.putfield 26, 3) := by decide +kernel
theorem dX4_init_33 : decode cX4_init 33 = .ok (.return_, 1) := by decide +kernel
theorem mok_X4_init : sm_mok (yX4_init, cX4_init, 5, none) := ⟨sm_b1 153 rfl rfl, sm_b1 7 rfl rfl, by decide +kernel, by decide +kernel, by decide +kernel, by decide⟩
set_option maxHeartbeats 4000000 in
set_option maxRecDepth 100000 in
theorem k_X4 (l : Launch) (D : va_G) (cA : Nat → ClassId) (h0 a1 a2 a3 a4 sz : Nat) : Met l yX4_init (Cond.code yX4_init cX4_init 5 none :: sm_BW) ({ frames := 1, cells := 1, slots := 16, locals := 40 }) (va_Pc [.ref h0, .ref a1, .ref a2, .ref a3, .ref a4] (ct_Pre D cA sz h0 4 [.null, .null, .null, .null, .null])) (va_Qv (fun u : (Nat → Nat) × (Nat → Nat → Int32) => True) (fun u t => va_P D vwCl [(h0, .inr (4, [.ref a1, .ref a2, .ref a3, .ref a4, .ref (u.1 0)])), ((u.1 0), .inl (cA 1, 16, .inl (fun _ => 0)))] t.heap ∧ va_D (va_A [(h0, .inr (4, [.null, .null, .null, .null, .null]))] sz) [(h0, .inr (4, [.ref a1, .ref a2, .ref a3, .ref a4, .ref (u.1 0)])), ((u.1 0), .inl (cA 1, 16, .inl (fun _ => 0)))]) (va_A [(h0, .inr (4, [.null, .null, .null, .null, .null]))] sz)) 1 16 (va_A [(h0, .inr (4, [.null, .null, .null, .null, .null]))] sz) := by
  refine Met.ofW (cc := cX4_init) (maxL := 5) (ret := none) (by decide) rfl ?_
  intro p e s m args below meth c s₁ B hml hv
  obtain ⟨rfl, hsz, hP, hK, hD0, hN⟩ := hv
  have hx := B.exec
  have hb := B.bytes
  have hr := B.returns
  have hts := atoms_spec (ws := Cond.code yX4_init cX4_init 5 none :: sm_BW) B.pre
  have htB : ∀ w ∈ sm_BW, w.before _ s = true := fun w hw => hts w (List.mem_cons_of_mem _ hw)
  have hown : s.vm.findClass RX4 = some m.cls := findClass_of_methodNamed B.named
  have hlocks := B.notSynchronized
  have hin : meth.name = "<init>" := (name_of_methodNamed B.named B.method).1
  subst hsz
  have hD := hD0.self (sz := s.heap.size)
  generalize hAe : va_A [(h0, .inr (4, [.null, .null, .null, .null, .null]))] s.heap.size = A at hD ⊢
  have hA : ∀ q : Nat, s.heap.size ≤ q → A q := fun q h => by rw [← hAe]; exact Or.inr h
  have C0 : ct_ctx p s m _ meth c D cA A RX4 cX4_init := ⟨hx, hb, hown, htB, hK, hA, hin⟩
  have hS : va_S A s.heap s.heap [] := va_S.rf
  have hP : va_P D vwCl [(h0, .inr (4, [.null, .null, .null, .null, .null]))] s.heap := hP
  have hl := lv_entry ([.ref h0, .ref a1, .ref a2, .ref a3, .ref a4]) (n := 5) (Nat.le_of_ble_eq_true rfl)
  rw [lg_entry_eq]
  generalize (lg_sl ([.ref h0, .ref a1, .ref a2, .ref a3, .ref a4]) ++ List.replicate (5 - (lg_sl ([.ref h0, .ref a1, .ref a2, .ref a3, .ref a4])).length) Slot.unset).toArray = ls at hl ⊢
  have hl : lv_has ls 5 [(0, .ref h0), (1, .ref a1), (2, .ref a2), (3, .ref a3), (4, .ref a4)] := hl
  refine lv_aload_n hx hb dX4_init_0 rfl (lv_at hl 0 rfl) ?_
  refine W.objInit hx hb hown (htB _ (sm_b1 154 rfl rfl)) (htB _ (sm_b1 25 rfl rfl)) (htB _ (sm_b1 26 rfl rfl)) rfl (by rw [hml]; exact hl.1) rfl dX4_init_1 (Nat.le_of_ble_eq_true rfl) (Nat.le_of_ble_eq_true rfl) ?_
  refine W.eq (g2 := F0 m 4 ls []) rfl ?_
  refine lv_aload_n hx hb dX4_init_4 rfl (lv_at hl 0 rfl) ?_
  refine lv_bipush (v := 16) hx hb dX4_init_5 (by decide) ?_
  refine ct_I C0 (n := 16) (N := 16) (by decide) rfl (Nat.le_of_ble_eq_true rfl) (Nat.le_of_ble_eq_true rfl) (Nat.le_of_ble_eq_true rfl) hP hD hS dX4_init_7 (fun q1 H hP hD hS => ?_)
  have hP : va_P D vwCl [(h0, .inr (4, [.null, .null, .null, .null, .null])), (q1, .inl (cA 1, 16, .inl (fun _ => 0)))] H := hP
  have hD : va_D A [(h0, .inr (4, [.null, .null, .null, .null, .null])), (q1, .inl (cA 1, 16, .inl (fun _ => 0)))] := hD
  refine W.widen (k := 1) (n := 16) (Nat.le_of_ble_eq_true rfl) (Nat.le_of_ble_eq_true rfl) ?_
  refine ct_put (v := .ref q1) (T := TX4) (N := 5) (k := 4) C0 rfl v_cok_X4 (by decide) tyX4_ok (htB _ (sm_b1 159 rfl rfl)) rfl rfl rfl rfl hP hD hS rfl (Nat.le_of_ble_eq_true rfl) dX4_init_9 (fun H locs hP hD hS => ?_)
  have hP : va_P D vwCl [(h0, .inr (4, [.null, .null, .null, .null, .ref q1])), (q1, .inl (cA 1, 16, .inl (fun _ => 0)))] H := hP
  have hD : va_D A [(h0, .inr (4, [.null, .null, .null, .null, .ref q1])), (q1, .inl (cA 1, 16, .inl (fun _ => 0)))] := hD
  refine lv_aload_n hx hb dX4_init_12 rfl (lv_at hl 0 rfl) ?_
  refine lv_aload_n hx hb dX4_init_13 rfl (lv_at hl 1 rfl) ?_
  refine ct_put (v := .ref a1) (T := TX4) (N := 5) (k := 0) C0 rfl v_cok_X4 (by decide) tyX4_ok (htB _ (sm_b1 155 rfl rfl)) rfl rfl rfl rfl hP hD hS rfl (Nat.le_of_ble_eq_true rfl) dX4_init_14 (fun H locs hP hD hS => ?_)
  have hP : va_P D vwCl [(h0, .inr (4, [.ref a1, .null, .null, .null, .ref q1])), (q1, .inl (cA 1, 16, .inl (fun _ => 0)))] H := hP
  have hD : va_D A [(h0, .inr (4, [.ref a1, .null, .null, .null, .ref q1])), (q1, .inl (cA 1, 16, .inl (fun _ => 0)))] := hD
  refine lv_aload_n hx hb dX4_init_17 rfl (lv_at hl 0 rfl) ?_
  refine lv_aload_n hx hb dX4_init_18 rfl (lv_at hl 2 rfl) ?_
  refine ct_put (v := .ref a2) (T := TX4) (N := 5) (k := 1) C0 rfl v_cok_X4 (by decide) tyX4_ok (htB _ (sm_b1 156 rfl rfl)) rfl rfl rfl rfl hP hD hS rfl (Nat.le_of_ble_eq_true rfl) dX4_init_19 (fun H locs hP hD hS => ?_)
  have hP : va_P D vwCl [(h0, .inr (4, [.ref a1, .ref a2, .null, .null, .ref q1])), (q1, .inl (cA 1, 16, .inl (fun _ => 0)))] H := hP
  have hD : va_D A [(h0, .inr (4, [.ref a1, .ref a2, .null, .null, .ref q1])), (q1, .inl (cA 1, 16, .inl (fun _ => 0)))] := hD
  refine lv_aload_n hx hb dX4_init_22 rfl (lv_at hl 0 rfl) ?_
  refine lv_aload_n hx hb dX4_init_23 rfl (lv_at hl 3 rfl) ?_
  refine ct_put (v := .ref a3) (T := TX4) (N := 5) (k := 2) C0 rfl v_cok_X4 (by decide) tyX4_ok (htB _ (sm_b1 157 rfl rfl)) rfl rfl rfl rfl hP hD hS rfl (Nat.le_of_ble_eq_true rfl) dX4_init_24 (fun H locs hP hD hS => ?_)
  have hP : va_P D vwCl [(h0, .inr (4, [.ref a1, .ref a2, .ref a3, .null, .ref q1])), (q1, .inl (cA 1, 16, .inl (fun _ => 0)))] H := hP
  have hD : va_D A [(h0, .inr (4, [.ref a1, .ref a2, .ref a3, .null, .ref q1])), (q1, .inl (cA 1, 16, .inl (fun _ => 0)))] := hD
  refine lv_aload_n hx hb dX4_init_27 rfl (lv_at hl 0 rfl) ?_
  refine lv_aload hx hb dX4_init_28 (lv_at hl 4 rfl) ?_
  refine ct_put (v := .ref a4) (T := TX4) (N := 5) (k := 3) C0 rfl v_cok_X4 (by decide) tyX4_ok (htB _ (sm_b1 158 rfl rfl)) rfl rfl rfl rfl hP hD hS rfl (Nat.le_of_ble_eq_true rfl) dX4_init_30 (fun H locs hP hD hS => ?_)
  have hP : va_P D vwCl [(h0, .inr (4, [.ref a1, .ref a2, .ref a3, .ref a4, .ref q1])), (q1, .inl (cA 1, 16, .inl (fun _ => 0)))] H := hP
  have hD : va_D A [(h0, .inr (4, [.ref a1, .ref a2, .ref a3, .ref a4, .ref q1])), (q1, .inl (cA 1, 16, .inl (fun _ => 0)))] := hD
  exact W.vret hx hb hr (fun t ht hW => ⟨⟨((fun i => [q1].getD i 0), (fun i => [].getD i (fun _ => 0))), rfl, trivial, by rw [ht]; exact hP, hD⟩, hS.F ht⟩) hS.2.2 dX4_init_33
theorem dX0_init_0 : decode cX0_init 0 = .ok (.aload_n 0, 1) := by decide +kernel
theorem dX0_init_1 : decode cX0_init 1 = .ok (.invokespecial 3, 3) := by decide +kernel
theorem dX0_init_4 : decode cX0_init 4 = .ok (.aload_n 0, 1) := by decide +kernel
theorem dX0_init_5 : decode cX0_init 5 = .ok (.bipush 12, 2) := by decide +kernel
theorem dX0_init_7 : decode cX0_init 7 = .ok (.newarray .int, 2) := by decide +kernel
theorem dX0_init_9 : decode cX0_init 9 = .ok (.putfield 9, 3) := by decide +kernel
theorem dX0_init_12 : decode cX0_init 12 = .ok (.aload_n 0, 1) := by decide +kernel
theorem dX0_init_13 : decode cX0_init 13 = .ok (.sipush 192, 3) := by decide +kernel
theorem dX0_init_16 : decode cX0_init 16 = .ok (.newarray .int, 2) := by decide +kernel
theorem dX0_init_18 : decode cX0_init 18 = .ok (.putfield 15, 3) := by decide +kernel
theorem dX0_init_21 : decode cX0_init 21 = .ok (.aload_n 0, 1) := by decide +kernel
theorem dX0_init_22 : decode cX0_init 22 = .ok (.sipush 4096, 3) := by decide +kernel
theorem dX0_init_25 : decode cX0_init 25 = .ok (.newarray .int, 2) := by decide +kernel
theorem dX0_init_27 : decode cX0_init 27 = .ok (.putfield 18, 3) := by decide +kernel
theorem dX0_init_30 : decode cX0_init 30 = .ok (.aload_n 0, 1) := by decide +kernel
theorem dX0_init_31 : decode cX0_init 31 = .ok (.iconst 0, 1) := by decide +kernel
theorem dX0_init_32 : decode cX0_init 32 = .ok (.putfield 21, 3) := by decide +kernel
theorem dX0_init_35 : decode cX0_init 35 = .ok (.aload_n 0, 1) := by decide +kernel
theorem dX0_init_36 : decode cX0_init 36 = .ok (.aload_n 1, 1) := by decide +kernel
theorem dX0_init_37 : decode cX0_init 37 = .ok (.putfield 25, 3) := by decide +kernel
theorem dX0_init_40 : decode cX0_init 40 = .ok (.aload_n 0, 1) := by decide +kernel
theorem dX0_init_41 : decode cX0_init 41 = .ok (.aload_n 2, 1) := by decide +kernel
theorem dX0_init_42 : decode cX0_init 42 = .ok (.putfield 29, 3) := by decide +kernel
theorem dX0_init_45 : decode cX0_init 45 = .ok (.return_, 1) := by decide +kernel
theorem mok_X0_init : sm_mok (yX0_init, cX0_init, 3, none) := ⟨sm_b2 6 rfl rfl, sm_b1 10 rfl rfl, by decide +kernel, by decide +kernel, by decide +kernel, by decide⟩
set_option maxHeartbeats 4000000 in
set_option maxRecDepth 100000 in
theorem k_X0 (l : Launch) (D : va_G) (cA : Nat → ClassId) (h0 a1 a2 sz : Nat) : Met l yX0_init (Cond.code yX0_init cX0_init 3 none :: sm_BW) ({ frames := 1, cells := 3, slots := 4300, locals := 40 }) (va_Pc [.ref h0, .ref a1, .ref a2] (ct_Pre D cA sz h0 0 [.null, .null, .null, .null, .null, .int 0])) (va_Qv (fun u : (Nat → Nat) × (Nat → Nat → Int32) => True) (fun u t => va_P D vwCl [(h0, .inr (0, [.ref a1, .ref a2, .ref (u.1 0), .ref (u.1 1), .ref (u.1 2), .int 0])), ((u.1 0), .inl (cA 1, 12, .inl (fun _ => 0))), ((u.1 1), .inl (cA 1, 192, .inl (fun _ => 0))), ((u.1 2), .inl (cA 1, 4096, .inl (fun _ => 0)))] t.heap ∧ va_D (va_A [(h0, .inr (0, [.null, .null, .null, .null, .null, .int 0]))] sz) [(h0, .inr (0, [.ref a1, .ref a2, .ref (u.1 0), .ref (u.1 1), .ref (u.1 2), .int 0])), ((u.1 0), .inl (cA 1, 12, .inl (fun _ => 0))), ((u.1 1), .inl (cA 1, 192, .inl (fun _ => 0))), ((u.1 2), .inl (cA 1, 4096, .inl (fun _ => 0)))]) (va_A [(h0, .inr (0, [.null, .null, .null, .null, .null, .int 0]))] sz)) 3 4300 (va_A [(h0, .inr (0, [.null, .null, .null, .null, .null, .int 0]))] sz) := by
  refine Met.ofW (cc := cX0_init) (maxL := 3) (ret := none) (by decide) rfl ?_
  intro p e s m args below meth c s₁ B hml hv
  obtain ⟨rfl, hsz, hP, hK, hD0, hN⟩ := hv
  have hx := B.exec
  have hb := B.bytes
  have hr := B.returns
  have hts := atoms_spec (ws := Cond.code yX0_init cX0_init 3 none :: sm_BW) B.pre
  have htB : ∀ w ∈ sm_BW, w.before _ s = true := fun w hw => hts w (List.mem_cons_of_mem _ hw)
  have hown : s.vm.findClass RX0 = some m.cls := findClass_of_methodNamed B.named
  have hlocks := B.notSynchronized
  have hin : meth.name = "<init>" := (name_of_methodNamed B.named B.method).1
  subst hsz
  have hD := hD0.self (sz := s.heap.size)
  generalize hAe : va_A [(h0, .inr (0, [.null, .null, .null, .null, .null, .int 0]))] s.heap.size = A at hD ⊢
  have hA : ∀ q : Nat, s.heap.size ≤ q → A q := fun q h => by rw [← hAe]; exact Or.inr h
  have C0 : ct_ctx p s m _ meth c D cA A RX0 cX0_init := ⟨hx, hb, hown, htB, hK, hA, hin⟩
  have hS : va_S A s.heap s.heap [] := va_S.rf
  have hP : va_P D vwCl [(h0, .inr (0, [.null, .null, .null, .null, .null, .int 0]))] s.heap := hP
  have hl := lv_entry ([.ref h0, .ref a1, .ref a2]) (n := 3) (Nat.le_of_ble_eq_true rfl)
  rw [lg_entry_eq]
  generalize (lg_sl ([.ref h0, .ref a1, .ref a2]) ++ List.replicate (3 - (lg_sl ([.ref h0, .ref a1, .ref a2])).length) Slot.unset).toArray = ls at hl ⊢
  have hl : lv_has ls 3 [(0, .ref h0), (1, .ref a1), (2, .ref a2)] := hl
  refine lv_aload_n hx hb dX0_init_0 rfl (lv_at hl 0 rfl) ?_
  refine W.objInit hx hb hown (htB _ (sm_b2 7 rfl rfl)) (htB _ (sm_b1 25 rfl rfl)) (htB _ (sm_b1 26 rfl rfl)) rfl (by rw [hml]; exact hl.1) rfl dX0_init_1 (Nat.le_of_ble_eq_true rfl) (Nat.le_of_ble_eq_true rfl) ?_
  refine W.eq (g2 := F0 m 4 ls []) rfl ?_
  refine lv_aload_n hx hb dX0_init_4 rfl (lv_at hl 0 rfl) ?_
  refine lv_bipush (v := 12) hx hb dX0_init_5 (by decide) ?_
  refine ct_I C0 (n := 12) (N := 12) (by decide) rfl (Nat.le_of_ble_eq_true rfl) (Nat.le_of_ble_eq_true rfl) (Nat.le_of_ble_eq_true rfl) hP hD hS dX0_init_7 (fun q1 H hP hD hS => ?_)
  have hP : va_P D vwCl [(h0, .inr (0, [.null, .null, .null, .null, .null, .int 0])), (q1, .inl (cA 1, 12, .inl (fun _ => 0)))] H := hP
  have hD : va_D A [(h0, .inr (0, [.null, .null, .null, .null, .null, .int 0])), (q1, .inl (cA 1, 12, .inl (fun _ => 0)))] := hD
  refine W.widen (k := 1) (n := 12) (Nat.le_of_ble_eq_true rfl) (Nat.le_of_ble_eq_true rfl) ?_
  refine ct_put (v := .ref q1) (T := TX0) (N := 6) (k := 2) C0 rfl v_cok_X0 (by decide) tyX0_ok (htB _ (sm_b2 10 rfl rfl)) rfl rfl rfl rfl hP hD hS rfl (Nat.le_of_ble_eq_true rfl) dX0_init_9 (fun H locs hP hD hS => ?_)
  have hP : va_P D vwCl [(h0, .inr (0, [.null, .null, .ref q1, .null, .null, .int 0])), (q1, .inl (cA 1, 12, .inl (fun _ => 0)))] H := hP
  have hD : va_D A [(h0, .inr (0, [.null, .null, .ref q1, .null, .null, .int 0])), (q1, .inl (cA 1, 12, .inl (fun _ => 0)))] := hD
  refine lv_aload_n hx hb dX0_init_12 rfl (lv_at hl 0 rfl) ?_
  refine lv_sipush (v := 192) hx hb dX0_init_13 (by decide) ?_
  refine ct_I C0 (n := 192) (N := 192) (by decide) rfl (Nat.le_of_ble_eq_true rfl) (Nat.le_of_ble_eq_true rfl) (Nat.le_of_ble_eq_true rfl) hP hD hS dX0_init_16 (fun q2 H hP hD hS => ?_)
  have hP : va_P D vwCl [(h0, .inr (0, [.null, .null, .ref q1, .null, .null, .int 0])), (q1, .inl (cA 1, 12, .inl (fun _ => 0))), (q2, .inl (cA 1, 192, .inl (fun _ => 0)))] H := hP
  have hD : va_D A [(h0, .inr (0, [.null, .null, .ref q1, .null, .null, .int 0])), (q1, .inl (cA 1, 12, .inl (fun _ => 0))), (q2, .inl (cA 1, 192, .inl (fun _ => 0)))] := hD
  refine W.widen (k := 2) (n := 204) (Nat.le_of_ble_eq_true rfl) (Nat.le_of_ble_eq_true rfl) ?_
  refine ct_put (v := .ref q2) (T := TX0) (N := 6) (k := 3) C0 rfl v_cok_X0 (by decide) tyX0_ok (htB _ (sm_b2 11 rfl rfl)) rfl rfl rfl rfl hP hD hS rfl (Nat.le_of_ble_eq_true rfl) dX0_init_18 (fun H locs hP hD hS => ?_)
  have hP : va_P D vwCl [(h0, .inr (0, [.null, .null, .ref q1, .ref q2, .null, .int 0])), (q1, .inl (cA 1, 12, .inl (fun _ => 0))), (q2, .inl (cA 1, 192, .inl (fun _ => 0)))] H := hP
  have hD : va_D A [(h0, .inr (0, [.null, .null, .ref q1, .ref q2, .null, .int 0])), (q1, .inl (cA 1, 12, .inl (fun _ => 0))), (q2, .inl (cA 1, 192, .inl (fun _ => 0)))] := hD
  refine lv_aload_n hx hb dX0_init_21 rfl (lv_at hl 0 rfl) ?_
  refine lv_sipush (v := 4096) hx hb dX0_init_22 (by decide) ?_
  refine ct_I C0 (n := 4096) (N := 4096) (by decide) rfl (Nat.le_of_ble_eq_true rfl) (Nat.le_of_ble_eq_true rfl) (Nat.le_of_ble_eq_true rfl) hP hD hS dX0_init_25 (fun q3 H hP hD hS => ?_)
  have hP : va_P D vwCl [(h0, .inr (0, [.null, .null, .ref q1, .ref q2, .null, .int 0])), (q1, .inl (cA 1, 12, .inl (fun _ => 0))), (q2, .inl (cA 1, 192, .inl (fun _ => 0))), (q3, .inl (cA 1, 4096, .inl (fun _ => 0)))] H := hP
  have hD : va_D A [(h0, .inr (0, [.null, .null, .ref q1, .ref q2, .null, .int 0])), (q1, .inl (cA 1, 12, .inl (fun _ => 0))), (q2, .inl (cA 1, 192, .inl (fun _ => 0))), (q3, .inl (cA 1, 4096, .inl (fun _ => 0)))] := hD
  refine W.widen (k := 3) (n := 4300) (Nat.le_of_ble_eq_true rfl) (Nat.le_of_ble_eq_true rfl) ?_
  refine ct_put (v := .ref q3) (T := TX0) (N := 6) (k := 4) C0 rfl v_cok_X0 (by decide) tyX0_ok (htB _ (sm_b2 12 rfl rfl)) rfl rfl rfl rfl hP hD hS rfl (Nat.le_of_ble_eq_true rfl) dX0_init_27 (fun H locs hP hD hS => ?_)
  have hP : va_P D vwCl [(h0, .inr (0, [.null, .null, .ref q1, .ref q2, .ref q3, .int 0])), (q1, .inl (cA 1, 12, .inl (fun _ => 0))), (q2, .inl (cA 1, 192, .inl (fun _ => 0))), (q3, .inl (cA 1, 4096, .inl (fun _ => 0)))] H := hP
  have hD : va_D A [(h0, .inr (0, [.null, .null, .ref q1, .ref q2, .ref q3, .int 0])), (q1, .inl (cA 1, 12, .inl (fun _ => 0))), (q2, .inl (cA 1, 192, .inl (fun _ => 0))), (q3, .inl (cA 1, 4096, .inl (fun _ => 0)))] := hD
  refine lv_aload_n hx hb dX0_init_30 rfl (lv_at hl 0 rfl) ?_
  refine lv_iconst (v := 0) hx hb dX0_init_31 (by decide) ?_
  refine ct_puti (v := .int 0) (T := TX0) (N := 6) (k := 5) C0 rfl v_cok_X0 (by decide) tyX0_ok (htB _ (sm_b2 13 rfl rfl)) rfl rfl rfl rfl hP hD hS rfl (Nat.le_of_ble_eq_true rfl) dX0_init_32 (fun H locs hP hD hS => ?_)
  have hP : va_P D vwCl [(h0, .inr (0, [.null, .null, .ref q1, .ref q2, .ref q3, .int 0])), (q1, .inl (cA 1, 12, .inl (fun _ => 0))), (q2, .inl (cA 1, 192, .inl (fun _ => 0))), (q3, .inl (cA 1, 4096, .inl (fun _ => 0)))] H := hP
  have hD : va_D A [(h0, .inr (0, [.null, .null, .ref q1, .ref q2, .ref q3, .int 0])), (q1, .inl (cA 1, 12, .inl (fun _ => 0))), (q2, .inl (cA 1, 192, .inl (fun _ => 0))), (q3, .inl (cA 1, 4096, .inl (fun _ => 0)))] := hD
  refine lv_aload_n hx hb dX0_init_35 rfl (lv_at hl 0 rfl) ?_
  refine lv_aload_n hx hb dX0_init_36 rfl (lv_at hl 1 rfl) ?_
  refine ct_put (v := .ref a1) (T := TX0) (N := 6) (k := 0) C0 rfl v_cok_X0 (by decide) tyX0_ok (htB _ (sm_b2 8 rfl rfl)) rfl rfl rfl rfl hP hD hS rfl (Nat.le_of_ble_eq_true rfl) dX0_init_37 (fun H locs hP hD hS => ?_)
  have hP : va_P D vwCl [(h0, .inr (0, [.ref a1, .null, .ref q1, .ref q2, .ref q3, .int 0])), (q1, .inl (cA 1, 12, .inl (fun _ => 0))), (q2, .inl (cA 1, 192, .inl (fun _ => 0))), (q3, .inl (cA 1, 4096, .inl (fun _ => 0)))] H := hP
  have hD : va_D A [(h0, .inr (0, [.ref a1, .null, .ref q1, .ref q2, .ref q3, .int 0])), (q1, .inl (cA 1, 12, .inl (fun _ => 0))), (q2, .inl (cA 1, 192, .inl (fun _ => 0))), (q3, .inl (cA 1, 4096, .inl (fun _ => 0)))] := hD
  refine lv_aload_n hx hb dX0_init_40 rfl (lv_at hl 0 rfl) ?_
  refine lv_aload_n hx hb dX0_init_41 rfl (lv_at hl 2 rfl) ?_
  refine ct_put (v := .ref a2) (T := TX0) (N := 6) (k := 1) C0 rfl v_cok_X0 (by decide) tyX0_ok (htB _ (sm_b2 9 rfl rfl)) rfl rfl rfl rfl hP hD hS rfl (Nat.le_of_ble_eq_true rfl) dX0_init_42 (fun H locs hP hD hS => ?_)
  have hP : va_P D vwCl [(h0, .inr (0, [.ref a1, .ref a2, .ref q1, .ref q2, .ref q3, .int 0])), (q1, .inl (cA 1, 12, .inl (fun _ => 0))), (q2, .inl (cA 1, 192, .inl (fun _ => 0))), (q3, .inl (cA 1, 4096, .inl (fun _ => 0)))] H := hP
  have hD : va_D A [(h0, .inr (0, [.ref a1, .ref a2, .ref q1, .ref q2, .ref q3, .int 0])), (q1, .inl (cA 1, 12, .inl (fun _ => 0))), (q2, .inl (cA 1, 192, .inl (fun _ => 0))), (q3, .inl (cA 1, 4096, .inl (fun _ => 0)))] := hD
  exact W.vret hx hb hr (fun t ht hW => ⟨⟨((fun i => [q1, q2, q3].getD i 0), (fun i => [].getD i (fun _ => 0))), rfl, trivial, by rw [ht]; exact hP, hD⟩, hS.F ht⟩) hS.2.2 dX0_init_45

