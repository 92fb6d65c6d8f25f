set_option maxHeartbeats 4000000 in
set_option maxRecDepth 100000 in
theorem lw_1580 (K : Option Value → sm_G → Prop) (J : Nat → sm_Lo → List Value → sm_G → Prop) (S : Nat → Nat → sm_Lo → List Value → sm_G → Prop) (Ls : Nat) (xs : Nat → Int32) (hW : sm_walk lay NL_law (sm_cl lw_cs) (some (Ls, xs)) 1 K J S) (hS0 : ∀ pc ls st g, S 0 pc ls st g = J pc ls st g)
    (i : Nat) (hi0 : i ≤ 2560) (a b : Option Value) (u : sm_G) (next : J 23 [some (.ref 1000), some (.ref 0), some (.ref 53), some (.ref 52), some (.int (nI (i + 5))), a, b] [] u) : J 1580 [some (.ref 1000), some (.ref 0), some (.ref 53), some (.ref 52), some (.int (nI i)), a, b] [] u := by
  have hn := nl_t
  have hf := fd_all
  have ha := ar_all
  generalize NL_law = N at hn hW
  generalize lay = L at hf ha hW
  obtain ⟨hS, hR⟩ := hW
  apply hR 1
  simp (maxSteps := 10000000) (disch := omega) only [hS, hn, sm_eqs, hf, ha, sm_b0, Int.reduceToNat, ↓reduceIte, Nat.reduceEqDiff, true_and, and_true, List.length_nil, List.length_cons, Nat.reduceAdd, Nat.reduceLeDiff, Nat.zero_le, false_implies, true_implies, not_true_eq_false, not_false_eq_true, implies_true, Nat.reduceSub, Nat.reduceMul, Nat.reduceDiv, reduceCtorEq, tn_clamp, nI_t, tn_nI, nI_add, pk_mul, rS_gS, rS_gA, rS_gL, rA_gS, rA_gA, rA_gL, rL_gS, rL_gA, rL_gL, and_self, and_false, false_and, if_true, if_false, true_or, or_true, or_false, false_or, sm_in, eqI, sI_s, Int32.toInt_zero, Int.natCast_zero, Int.natCast_one, Int.cast_ofNat_Int, Int.reduceEq, Int.reduceLT, Int.reduceLE, Int.reduceNeg, Int.reduceNe, ne_eq, n_up, g_up, e_cat, fr_A, fr_O, fr_P, fr_L, hS0]
  first
  | exact next
  | fail "G"
/-- the law's method, its room spent so far -/
abbrev lw_J (p : Program) (l : Launch) (e : Env) (R : Room) (s : State) (m : MethodId) (args : Array Value) (below : List Frame) (meth : Method) (c : Code) (Q : State → Prop) (D : va_G) (ad : Nat → Nat) (cA : Nat → ClassId) (A : Nat → Prop) (k n : Nat) : Nat → sm_Lo → List Value → sm_G → Prop := sm_J p l e R s m args below meth c Q D ad cA A s.heap lay 7 k n
theorem dlw : decode cL_law 1309 = .ok (.invokestatic 139, 3) ∧ decode cL_law 1414 = .ok (.invokestatic 154, 3) := ⟨by decide +kernel, by decide +kernel⟩
theorem glw_claimed : GoodIn sm_BW (va_wsS RL 139 yL_claimed (Cond.codeWith yL_claimed cL_claimed 5 (some .int) xL_hh :: sm_BW)) := fun w hw => by
  unfold va_wsS at hw
  have hm : w ∈ sm_BW := by
    rcases List.mem_append.mp hw with h | h
    · simp only [List.mem_cons, List.not_mem_nil, or_false] at h
      first
      | (rcases h with rfl | rfl | rfl
         · exact sm_b4 204 rfl rfl
         · exact sm_b4 205 rfl rfl
         · exact sm_b1 0 rfl rfl)
      | fail "G"
    · rcases List.mem_cons.mp h with rfl | h
      · exact cwL_claimed
      · exact h
  exact ⟨hm, sm_good hm⟩
theorem glw_place : GoodIn sm_BW (va_wsS RL 154 yL_place (Cond.codeWith yL_place cL_place 5 (some .int) xL_hh :: sm_BW)) := fun w hw => by
  unfold va_wsS at hw
  have hm : w ∈ sm_BW := by
    rcases List.mem_append.mp hw with h | h
    · simp only [List.mem_cons, List.not_mem_nil, or_false] at h
      first
      | (rcases h with rfl | rfl | rfl
         · exact sm_b5 40 rfl rfl
         · exact sm_b5 41 rfl rfl
         · exact sm_b1 0 rfl rfl)
      | fail "G"
    · rcases List.mem_cons.mp h with rfl | h
      · exact cwL_place
      · exact h
  exact ⟨hm, sm_good hm⟩
section LWL
variable {p : Program} {l : Launch} {e : Env} {s : State} {m : MethodId} {args : Array Value} {below : List Frame} {meth : Method} {c : Code} {Q : State → Prop}
variable {D : va_G} {ad : Nat → Nat} {cA : Nat → ClassId} {A : Nat → Prop} {Ls : Nat} {xs : Nat → Int32}

set_option maxHeartbeats 4000000 in
theorem lw_call_claimed (hl : l.stackTraces = false) (C0 : sm_ctx p s m args c D ad cA A s.heap lay RL cL_law (some (Ls, xs))) (hml : c.maxLocals = 7) (hA : ∀ q, s.heap.size ≤ q → A q) (hN : sm_nest s) (ht : sm_thr A s) {k n : Nat} (hk : k + 1 ≤ room_1.cells ∧ n + 6 ≤ room_1.slots) (LO : sm_Lo) (g : sm_G) (hi : iv g) (x w : Int32)
    (next : ∀ (r : Int32) (u : sm_G), xL_K g (claimedR g x w) (some (.int r)) u → lw_J p l e room_1 s m args below meth c Q D ad cA A (k + 1) (n + 6) 1312 LO [.int r] u) :
    lw_J p l e room_1 s m args below meth c Q D ad cA A k n 1309 LO [.ref 52, .int w, .int x, .ref 0] g := by
  intro a H locs hlv hPH hSH
  obtain ⟨hx, hb, hown, hbw, hK, hD, hX⟩ := id C0
  have hcw := vx_cwSW (R := room_1) (mc := 1) (ms := 6) (rm := xL_rm) 4 hbw glw_claimed rfl rfl rfl ⟨by decide +kernel, by decide +kernel, by decide +kernel⟩ ⟨Nat.le_of_ble_eq_true rfl, Nat.le_of_ble_eq_true rfl⟩
  have hpre : ∀ U : State, U.heap = H → s.WarmedH U.vm → x9_W D ad cA H.size g U := fun U hU hW => by
    refine ⟨⟨by rw [hU], by rw [hU]; exact hPH, va_K.moved hW.alike hK, (hD g).self, sm_nest_warm hW hN⟩, ht.go hW (fun q h1 h2 => by rw [hU]; exact hSH.2.1 q h1 h2) (fun q hq => ?_)⟩
    rcases hq with ⟨j, z, hj⟩ | hq
    · exact (hD g).2 j _ hj
    · exact hA q (Nat.le_trans hSH.1 hq)
  refine x9_callQ (r := some 0) rfl hD (vx_runSX (As := [.ref (ad 0), .int x, .int w, .ref (ad 52)]) (rest := []) ⟨hx, hb, hml, hown, hbw⟩ (metL_claimed hl D ad cA H.size g x w hi) hcw ⟨x9_blind, fun U hU hW => ⟨rfl, hpre U hU hW⟩⟩ rfl rfl hlv.2.1 rfl (lv_room (Nat.le_of_ble_eq_true rfl)) dlw.1 ⟨hk.1, hk.2⟩) hSH hA (fun q h => h) ?_ ?_
  · intro ce q9 H1 locs1 hr9
    cases hr9
  · intro v u H1 locs1 hv hP1 hS1
    rcases id hv with ⟨y, h1, rfl, h2⟩ | ⟨h1, rfl, h2⟩
    · exact next (nI 0) u hv a H1 locs1 hlv hP1 hS1
    · exact next (nI 1) u hv a H1 locs1 hlv hP1 hS1

set_option maxHeartbeats 4000000 in
theorem lw_call_place (hl : l.stackTraces = false) (C0 : sm_ctx p s m args c D ad cA A s.heap lay RL cL_law (some (Ls, xs))) (hml : c.maxLocals = 7) (hA : ∀ q, s.heap.size ≤ q → A q) (hN : sm_nest s) (ht : sm_thr A s) {k n : Nat} (hk : k + 1 ≤ room_1.cells ∧ n + 6 ≤ room_1.slots) (LO : sm_Lo) (g : sm_G) (hi : iv g) (x w : Int32)
    (next : ∀ (r : Int32) (u : sm_G), xL_K g (placeR g x w) (some (.int r)) u → lw_J p l e room_1 s m args below meth c Q D ad cA A (k + 1) (n + 6) 1417 LO [.int r] u) :
    lw_J p l e room_1 s m args below meth c Q D ad cA A k n 1414 LO [.ref 52, .int w, .int x, .ref 0] g := by
  intro a H locs hlv hPH hSH
  obtain ⟨hx, hb, hown, hbw, hK, hD, hX⟩ := id C0
  have hcw := vx_cwSW (R := room_1) (mc := 1) (ms := 6) (rm := xL_rm) 4 hbw glw_place rfl rfl rfl ⟨by decide +kernel, by decide +kernel, by decide +kernel⟩ ⟨Nat.le_of_ble_eq_true rfl, Nat.le_of_ble_eq_true rfl⟩
  have hpre : ∀ U : State, U.heap = H → s.WarmedH U.vm → x9_W D ad cA H.size g U := fun U hU hW => by
    refine ⟨⟨by rw [hU], by rw [hU]; exact hPH, va_K.moved hW.alike hK, (hD g).self, sm_nest_warm hW hN⟩, ht.go hW (fun q h1 h2 => by rw [hU]; exact hSH.2.1 q h1 h2) (fun q hq => ?_)⟩
    rcases hq with ⟨j, z, hj⟩ | hq
    · exact (hD g).2 j _ hj
    · exact hA q (Nat.le_trans hSH.1 hq)
  refine x9_callQ (r := some 0) rfl hD (vx_runSX (As := [.ref (ad 0), .int x, .int w, .ref (ad 52)]) (rest := []) ⟨hx, hb, hml, hown, hbw⟩ (metL_place hl D ad cA H.size g x w hi) hcw ⟨x9_blind, fun U hU hW => ⟨rfl, hpre U hU hW⟩⟩ rfl rfl hlv.2.1 rfl (lv_room (Nat.le_of_ble_eq_true rfl)) dlw.2 ⟨hk.1, hk.2⟩) hSH hA (fun q h => h) ?_ ?_
  · intro ce q9 H1 locs1 hr9
    cases hr9
  · intro v u H1 locs1 hv hP1 hS1
    rcases id hv with ⟨y, h1, rfl, h2⟩ | ⟨h1, rfl, h2⟩
    · exact next (nI 0) u hv a H1 locs1 hlv hP1 hS1
    · exact next (nI 1) u hv a H1 locs1 hlv hP1 hS1

set_option maxHeartbeats 4000000 in
theorem lw_loop (hl : l.stackTraces = false) (C0 : sm_ctx p s m args c D ad cA A s.heap lay RL cL_law (some (Ls, xs))) (hml : c.maxLocals = 7) (hA : ∀ q, s.heap.size ≤ q → A q) (hN : sm_nest s) (ht : sm_thr A s) (hLs : Ls ≤ 2560) {k0 n0 : Nat} (hk : k0 + 513 ≤ room_1.cells ∧ n0 + 3078 ≤ room_1.slots)
    (hend : ∀ (pc : Nat) (a : Array Slot) (H : Heap) (locs : List Loc), va_S A s.heap H locs → decode cL_law pc = .ok (.ireturn, 1) → W p l e room_1 s m args below meth c H locs (k0 + 513) (n0 + 3078) Q (F0 m pc a [.int 1])) :
    ∀ d t, t + d = 512 → ∀ (g : sm_G) (a b : Option Value), CP g g → lw_J p l e room_1 s m args below meth c Q D ad cA A (k0 + t) (n0 + 6 * t) 23 [some (.ref 1000), some (.ref 0), some (.ref 53), some (.ref 52), some (.int (nI (5 * t))), a, b] [] g := by
  have walk : ∀ t, t ≤ 513 → sm_walk lay NL_law (sm_cl lw_cs) (some (Ls, xs)) 1 (fun v _ => v = some (.int (nI 1))) (lw_J p l e room_1 s m args below meth c Q D ad cA A (k0 + t) (n0 + 6 * t)) (sm_sx lay NL_law (sm_cl lw_cs) (some (Ls, xs)) 1 (fun v _ => v = some (.int (nI 1))) (lw_J p l e room_1 s m args below meth c Q D ad cA A (k0 + t) (n0 + 6 * t))) := fun t hle =>
    sm_walks (T := TL_) (bc := cL_law) (hd := [23]) (nL := 7) (xs := some (Ls, xs)) (mt := sm_mt) (cs := sm_cl lw_cs) (rk := 1) (d := 80) C0 hml hA hN v_cok v_lok v_ka v_tok_L (sm_spok_cl (lw_spok l)) ⟨Nat.le_of_ble_eq_true rfl, Nat.le_of_ble_eq_true rfl, Nat.le_trans (by omega) hk.1, Nat.le_trans (by omega) hk.2⟩
      (fun pc a H locs u hPu hSu => ⟨fun x hdec _ hKx => by
        cases hKx
        exact W.widen (by omega) (by omega) (hend pc a H locs hSu hdec), fun x hdec h2 hKx => (by cases h2), fun x hdec h3 hKx => (by cases h3), fun hdec h4 hKx => (by cases h4)⟩)
  intro d
  induction d with
  | zero =>
    intro t ht9 g a b hg
    have hno : ¬ 5 * t + 5 ≤ Ls := by omega
    exact lw_turn _ _ _ Ls xs (walk t (by omega)) (fun _ _ _ _ => rfl) (5 * t) (by omega) hLs g a b hg rfl (fun h => absurd h hno) (fun h => absurd h hno) (fun h => absurd h hno)
  | succ d ih =>
    intro t ht9 g a b hg
    have ih := ih (t + 1) (by omega)
    have e5 : 5 * (t + 1) = 5 * t + 5 := by omega
    rw [e5] at ih
    have nx : ∀ a b u, CP u u → lw_J p l e room_1 s m args below meth c Q D ad cA A (k0 + (t + 1)) (n0 + 6 * (t + 1)) 1580 [some (.ref 1000), some (.ref 0), some (.ref 53), some (.ref 52), some (.int (nI (5 * t))), a, b] [] u := fun a b u hu =>
      lw_1580 _ _ _ Ls xs (walk (t + 1) (by omega)) (fun _ _ _ _ => rfl) (5 * t) (by omega) a b u (ih u a b hu)
    refine lw_turn _ _ _ Ls xs (walk t (by omega)) (fun _ _ _ _ => rfl) (5 * t) (by omega) hLs g a b hg rfl (fun _ a b u hu a9 H locs h1 h2 h3 => W.widen (by omega) (by omega) (ih u a b hu a9 H locs h1 h2 h3)) (fun hi => ?_) (fun hi => ?_)
    · refine lw_call_claimed hl C0 hml hA hN ht ⟨Nat.le_trans (by omega) hk.1, Nat.le_trans (by omega) hk.2⟩ _ g hg.1 _ _ (fun r u hu => ?_)
      exact op_27b _ _ _ _ Ls xs (walk (t + 1) (by omega)) (fun _ _ _ _ => rfl) rfl rfl (5 * t) hi hLs g u a b r hg hu nx
    · refine lw_call_place hl C0 hml hA hN ht ⟨Nat.le_trans (by omega) hk.1, Nat.le_trans (by omega) hk.2⟩ _ g hg.1 _ _ (fun r u hu => ?_)
      exact op_29b _ _ _ _ Ls xs (walk (t + 1) (by omega)) (fun _ _ _ _ => rfl) rfl rfl (5 * t) hi hLs g u a b r hg hu nx
end LWL

