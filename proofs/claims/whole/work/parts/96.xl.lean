/-! The law's two methods that catch. -/
theorem sm_thr.go {A B : Nat → Prop} {s U : State} (h : sm_thr A s) (hW : s.WarmedH U.vm) (hk : ∀ q : Nat, q < s.heap.size → ¬ A q → U.heap[q]? = s.heap[q]?) (hAB : ∀ q, B q → A q) : sm_thr B U := by
  obtain ⟨h1, h2, h3, a1, a2, a3, a4, v1, v2, v3, v4⟩ := h
  exact ⟨vx_Zq.moved hW.alike ((h1.kept hk).narrow hAB), vx_Zq.moved hW.alike ((h2.kept hk).narrow hAB), fun w hw => (by
    have q := h3 w hw
    rcases List.mem_cons.mp hw with rfl | hw
    · exact va_Nw.warmC hW q
    · rcases List.mem_cons.mp hw with rfl | hw
      · exact va_Nw.warmD hW q
      · rcases List.mem_cons.mp hw with rfl | hw
        · exact va_Nw.warmD hW q
        · rcases List.mem_cons.mp hw with rfl | hw
          · exact va_Nw.warmD hW q
          · exact absurd hw List.not_mem_nil), a1, a2, a3, a4, vk_R.warm hW v1, vk_R.warm hW v2, vk_R.warm hW v3, vk_R.warm hW v4⟩
theorem x9_blind {D : va_G} {ad : Nat → Nat} {cA : Nat → ClassId} {sz : Nat} {g : sm_G} {av : List Value} : FrameBlind (va_Pc av (x9_W D ad cA sz g)) := fun a U f mk h => by
  obtain ⟨h0, h1, h2⟩ := h
  exact ⟨h0, (sm_blind (lay := lay) (D := D) (ad := ad) (cA := cA) (sz := sz) (g := g) (av := av) a U f mk ⟨h0, h1⟩).2, sm_thr.go (U := U.calling f mk a) h2 (State.WarmedH.refl U) (fun _ _ _ => rfl) (fun _ h => h)⟩
section X9C
variable {p : Program} {l : Launch} {e : Env} {R : Room} {s : State} {m : MethodId} {args : Array Value} {below : List Frame} {meth : Method} {c : Code} {Q : State → Prop}
variable {D : va_G} {ad : Nat → Nat} {cA : Nat → ClassId} {A : Nat → Prop} {H0 : Heap} {nL cells slots mc ms : Nat}
theorem x9_callQ {H : Heap} {locs : List Loc} {pc : Nat} {ls : Array Slot} {st0 rest : List Value} {av : Array Value} {sz : Nat} {g : sm_G} {K : Option Value → sm_G → Prop} {r : Option Int32} {free : Addr → Prop} (hsz : H.size = sz) (hD : ∀ g, va_D A (sm_pic lay ad cA g))
    (hr : vx_Run p l e R s m args below meth c H locs cells slots mc ms (F0 m pc ls st0) rest (sm_post lay D ad cA sz g K av) (x9_X D ad cA sz g r) free) (hS : va_S A H0 H locs) (hA : ∀ q, H0.size ≤ q → A q) (hf : ∀ q, free q → va_A (sm_pic lay ad cA g) sz q)
    (kx : ∀ (ce : Cell) (q9 : Addr) (H1 : Heap) (locs1 : List Loc), r = none → va_P D vwCl (sm_pic lay ad cA g) H1 → va_S A H0 H1 locs1 → H1[q9]? = some ce → ce.vm = .none → s.vm.findClass tNS = some ce.cls → vx_W p l e R s m args below meth c H1 locs1 (cells + mc) (slots + ms) Q (F0 m pc ls rest) q9)
    (kk : ∀ (v : Option Value) (u : sm_G) (H1 : Heap) (locs1 : List Loc), K v u → va_P D vwCl (sm_pic lay ad cA u) H1 → va_S A H0 H1 locs1 → W p l e R s m args below meth c H1 locs1 (cells + mc) (slots + ms) Q (F0 m (pc + 3) ls ((v.map (sm_tr ad)).toList ++ rest))) : W p l e R s m args below meth c H locs cells slots Q (F0 m pc ls st0) := by
  have hA1 : ∀ q, va_A (sm_pic lay ad cA g) sz q → A q := fun q hq => by
    rcases hq with ⟨k, e, hk⟩ | hq
    · exact (hD g).2 k _ hk
    · exact hA q (Nat.le_trans hS.1 (by rw [hsz]; exact hq))
  intro T hT X
  rcases hr T hT X with ⟨v, st₀, t, T', L, h0, X', hL, e1, e2, ⟨⟨w, u, hv, hp, hb⟩, hF⟩, st⟩ | ⟨q, st₀, t, T', L, E, ce, h0, X', hL, e1, e2, ⟨u, hp, ⟨rfl, hb⟩, hF⟩, hce, hcv, hcl, st⟩
  · cases hv
    obtain ⟨k1, k2, k3⟩ := vx_keep h0 e1 hS (fun q _ hq => hA1 q hq) (fun q hq => hA1 q (hf q hq)) hL hF
    obtain ⟨t2, a1, b1⟩ := kk w u T'.heap (locs ++ L) hp (by rw [e1]; exact hb) k3 T' rfl X'
    exact ⟨t2, st t2 a1, b1⟩
  · obtain ⟨k1, k2, k3⟩ := vx_keep h0 e1 hS (fun q _ hq => hA1 q hq) (fun q hq => hA1 q (hf q hq)) hL hF
    obtain ⟨t2, a1, b1⟩ := kx ce q T'.heap (locs ++ L) hp (by rw [e1]; exact hb) k3 (by rw [e1]; exact hce) hcv hcl T' rfl X'
    exact ⟨t2, st.trans a1, b1⟩
end X9C
def xL_rm : Room := { frames := 12, cells := 1, slots := 6, locals := 600 }
def xL_hh : List (Nat × Nat × Nat × Nat) := [(0, 10, 13, 13)]
/-- what the call gives: the answer laid into the array and 0, or 1 -/
def xL_K (g : sm_G) (r : Option Int32) : Option Value → sm_G → Prop := fun v u => (∃ x, r = some x ∧ v = some (.int (nI 0)) ∧ u = gL g 52 (vp_updL (rL g 52) 0 x.toInt64)) ∨ (r = none ∧ v = some (.int (nI 1)) ∧ u = g)
theorem xL_cl : Cond.classLink RL 13 tNS ∈ sm_BW := sm_b4 207 rfl rfl

set_option maxHeartbeats 4000000 in
set_option maxRecDepth 100000 in
theorem wL_claimed (K : Option Value → sm_G → Prop) (J : Nat → sm_Lo → List Value → sm_G → Prop) (S : Nat → Nat → sm_Lo → List Value → sm_G → Prop) (hW : sm_walk lay NL_claimed (sm_cl []) none 0 K J S) (hS0 : ∀ pc ls st g, S 0 pc ls st g = J pc ls st g) (g : sm_G) (k w : Int32) :
    (J 5 [some (.ref 0), some (.int k), some (.int w), some (.ref 52), none] [.int w, .int k, .ref 0, .int (nI 0), .ref 52] g → J 0 [some (.ref 0), some (.int k), some (.int w), some (.ref 52), none] [] g) ∧
    (∀ x : Int32, K (some (.int (nI 0))) (gL g 52 (vp_updL (rL g 52) 0 x.toInt64)) → J 8 [some (.ref 0), some (.int k), some (.int w), some (.ref 52), none] [.int x, .int (nI 0), .ref 52] g) ∧
    (K (some (.int (nI 1))) g → J 15 [some (.ref 0), some (.int k), some (.int w), some (.ref 52), none] [] g) := by
  have hn := n_L_claimed
  have hf := fd_all
  have ha := ar_all
  generalize NL_claimed = N at hn hW
  generalize lay = L at hf ha hW
  obtain ⟨hS, hR⟩ := hW
  refine ⟨fun h => ?_, fun x h => ?_, fun h => ?_⟩
  · apply hR 4
    simp (maxSteps := 10000000) (disch := omega) only [hS, hn, sm_eqs, hf, ha, sm_b0, Int.reduceToNat, ↓reduceIte, Nat.reduceEqDiff, true_and, and_true, List.length_nil, List.length_cons, Nat.reduceAdd, Nat.reduceLeDiff, Nat.zero_le, false_implies, true_implies, not_true_eq_false, not_false_eq_true, implies_true, Nat.reduceSub, Nat.reduceMul, Nat.reduceDiv, reduceCtorEq, tn_clamp, nI_t, tn_nI, nI_add, pk_mul, rS_gS, rS_gA, rS_gL, rA_gS, rA_gA, rA_gL, rL_gS, rL_gA, rL_gL, and_self, and_false, false_and, if_true, if_false, true_or, or_true, or_false, false_or, sm_in, eqI, sI_s, Int32.toInt_zero, Int.natCast_zero, Int.natCast_one, Int.cast_ofNat_Int, Int.reduceEq, Int.reduceLT, Int.reduceLE, Int.reduceNeg, Int.reduceNe, ne_eq, n_up, g_up, e_cat, fr_A, fr_O, fr_P, fr_L, hS0]
    clear hn hf ha hS hR
    first
    | exact h
    | fail "G"
  · apply hR 6
    simp (maxSteps := 10000000) (disch := omega) only [hS, hn, sm_eqs, hf, ha, sm_b0, Int.reduceToNat, ↓reduceIte, Nat.reduceEqDiff, true_and, and_true, List.length_nil, List.length_cons, Nat.reduceAdd, Nat.reduceLeDiff, Nat.zero_le, false_implies, true_implies, not_true_eq_false, not_false_eq_true, implies_true, Nat.reduceSub, Nat.reduceMul, Nat.reduceDiv, reduceCtorEq, tn_clamp, nI_t, tn_nI, nI_add, pk_mul, rS_gS, rS_gA, rS_gL, rA_gS, rA_gA, rA_gL, rL_gS, rL_gA, rL_gL, and_self, and_false, false_and, if_true, if_false, true_or, or_true, or_false, false_or, sm_in, eqI, sI_s, Int32.toInt_zero, Int.natCast_zero, Int.natCast_one, Int.cast_ofNat_Int, Int.reduceEq, Int.reduceLT, Int.reduceLE, Int.reduceNeg, Int.reduceNe, ne_eq, n_up, g_up, e_cat, fr_A, fr_O, fr_P, fr_L, hS0]
    clear hn hf ha hS hR
    first
    | exact h
    | exact ⟨by decide, h⟩
    | fail "G"
  · apply hR 3
    simp (maxSteps := 10000000) (disch := omega) only [hS, hn, sm_eqs, hf, ha, sm_b0, Int.reduceToNat, ↓reduceIte, Nat.reduceEqDiff, true_and, and_true, List.length_nil, List.length_cons, Nat.reduceAdd, Nat.reduceLeDiff, Nat.zero_le, false_implies, true_implies, not_true_eq_false, not_false_eq_true, implies_true, Nat.reduceSub, Nat.reduceMul, Nat.reduceDiv, reduceCtorEq, tn_clamp, nI_t, tn_nI, nI_add, pk_mul, rS_gS, rS_gA, rS_gL, rA_gS, rA_gA, rA_gL, rL_gS, rL_gA, rL_gL, and_self, and_false, false_and, if_true, if_false, true_or, or_true, or_false, false_or, sm_in, eqI, sI_s, Int32.toInt_zero, Int.natCast_zero, Int.natCast_one, Int.cast_ofNat_Int, Int.reduceEq, Int.reduceLT, Int.reduceLE, Int.reduceNeg, Int.reduceNe, ne_eq, n_up, g_up, e_cat, fr_A, fr_O, fr_P, fr_L, hS0]
    clear hn hf ha hS hR
    first
    | exact h
    | fail "G"
theorem cwL_claimed : Cond.codeWith yL_claimed cL_claimed 5 (some .int) xL_hh ∈ sm_BW := sm_b4 206 rfl rfl
theorem yL9_claimed : Cond.methodLink RL 7 yX9_claimed ∈ sm_BW ∧ Cond.instanceMethod yX9_claimed ∈ sm_BW ∧ Cond.selects RX9 yX9_claimed yX9_claimed ∈ sm_BW := ⟨sm_b4 208 rfl rfl, sm_b4 209 rfl rfl, sm_b4 210 rfl rfl⟩
theorem dL_claimed : decode cL_claimed 5 = .ok (.invokevirtual 7, 3) ∧ decode cL_claimed 13 = .ok (.astore 4, 2) := ⟨by decide +kernel, by decide +kernel⟩
set_option maxHeartbeats 4000000 in
theorem metL_claimed {l : Launch} (hl : l.stackTraces = false) (D : va_G) (ad : Nat → Nat) (cA : Nat → ClassId) (sz : Nat) (g : sm_G) (k w : Int32) (hi : iv g) :
    vx_Met l yL_claimed (Cond.codeWith yL_claimed cL_claimed 5 (some .int) xL_hh :: sm_BW) xL_rm (va_Pc (([.ref 0, .int k, .int w, .ref 52] : List Value).map (sm_tr ad)) (x9_W D ad cA sz g)) (sm_post lay D ad cA sz g (xL_K g (claimedR g k w))) (x9_X D ad cA sz g (some 0)) 1 6 (va_A (sm_pic lay ad cA g) sz) := by
  refine vx_ofWH (cc := cL_claimed) (maxL := 5) (ret := some .int) (hh := xL_hh) (by decide +kernel) rfl ?_
  intro p e s m args below meth c s₁ B hml hv
  obtain ⟨rfl, ⟨hsz, hP, hK, hD0, hN⟩, ht⟩ := hv
  have hts := atoms_spec (ws := Cond.codeWith yL_claimed cL_claimed 5 (some .int) xL_hh :: sm_BW) B.pre
  have hbw : ∀ w' ∈ sm_BW, w'.before (([.ref 0, .int k, .int w, .ref 52] : List Value).map (sm_tr ad)).toArray s = true := fun w' hw => hts w' (List.mem_cons_of_mem _ hw)
  have hown : s.vm.findClass RL = some m.cls := findClass_of_methodNamed B.named
  have hlocks := B.notSynchronized
  have htab := vx_table (x := yL_claimed) B (hts _ List.mem_cons_self)
  subst hsz
  have hDg : ∀ g', va_D (va_A (sm_pic lay ad cA g) s.heap.size) (sm_pic lay ad cA g') := fun g' => sm_pic_D hD0.self g'
  have C0 : sm_ctx p s m (([.ref 0, .int k, .int w, .ref 52] : List Value).map (sm_tr ad)).toArray c D ad cA (va_A (sm_pic lay ad cA g) s.heap.size) s.heap lay TL_.1 cL_claimed none :=
    ⟨B.exec, B.bytes, hown, hbw, hK, hDg, fun q hq => by cases hq⟩
  have hA : ∀ q, s.heap.size ≤ q → va_A (sm_pic lay ad cA g) s.heap.size q := fun q h => Or.inr h
  have hx := B.exec
  have hbb := B.bytes
  have hr := B.returns
  have ret1 : ∀ (pc : Nat) (a : Array Slot) (H : Heap) (locs : List Loc) (u : sm_G) (x : Int32), va_P D vwCl (sm_pic lay ad cA u) H → va_S (va_A (sm_pic lay ad cA g) s.heap.size) s.heap H locs → decode cL_claimed pc = .ok (.ireturn, 1) → xL_K g (claimedR g k w) (some (.int x)) u →
      W p l e (headSpec (Cond.codeWith yL_claimed cL_claimed 5 (some .int) xL_hh :: sm_BW) xL_rm).room s m (([.ref 0, .int k, .int w, .ref 52] : List Value).map (sm_tr ad)).toArray below meth c H locs 1 6 (vx_MQ below (sm_post lay D ad cA s.heap.size g (xL_K g (claimedR g k w))) (x9_X D ad cA s.heap.size g (some 0)) (([.ref 0, .int k, .int w, .ref 52] : List Value).map (sm_tr ad)).toArray s 1 6 (va_A (sm_pic lay ad cA g) s.heap.size)) (F0 m pc a [.int x]) :=
    fun pc a H locs u x hPu hSu hdec hKx => vx_ret (W.iret hx hbb hr (fun t ht _ => ⟨⟨some (.int x), u, rfl, hKx, by rw [ht]; exact hPu⟩, hSu.F ht⟩) hSu.2.2 hdec)
  have w1 := sm_walks (p := p) (l := l) (e := e) (R := (headSpec (Cond.codeWith yL_claimed cL_claimed 5 (some .int) xL_hh :: sm_BW) xL_rm).room) (below := below) (meth := meth) (Q := vx_MQ below (sm_post lay D ad cA s.heap.size g (xL_K g (claimedR g k w))) (x9_X D ad cA s.heap.size g (some 0)) (([.ref 0, .int k, .int w, .ref 52] : List Value).map (sm_tr ad)).toArray s 1 6 (va_A (sm_pic lay ad cA g) s.heap.size)) (cells := 1) (slots := 6) (T := TL_) (bc := cL_claimed) (hd := []) (nL := 5) (xs := none) (mt := sm_mt) (cs := sm_cl []) (rk := 0) (d := 0) (K := xL_K g (claimedR g k w)) C0 hml hA hN v_cok v_lok v_ka v_tok_L (sm_spok_cl (fun q hq => by cases hq)) ⟨Nat.le_of_ble_eq_true rfl, Nat.le_of_ble_eq_true rfl, Nat.le_of_ble_eq_true rfl, Nat.le_of_ble_eq_true rfl⟩
    (fun pc a H locs u hPu hSu => ⟨fun x hdec _ hKx => ret1 pc a H locs u x hPu hSu hdec hKx, fun x hdec h2 hKx => (by cases h2), fun x hdec h3 hKx => (by cases h3), fun hdec h4 hKx => (by cases h4)⟩)
  have w0 := sm_walks (p := p) (l := l) (e := e) (R := (headSpec (Cond.codeWith yL_claimed cL_claimed 5 (some .int) xL_hh :: sm_BW) xL_rm).room) (below := below) (meth := meth) (Q := vx_MQ below (sm_post lay D ad cA s.heap.size g (xL_K g (claimedR g k w))) (x9_X D ad cA s.heap.size g (some 0)) (([.ref 0, .int k, .int w, .ref 52] : List Value).map (sm_tr ad)).toArray s 1 6 (va_A (sm_pic lay ad cA g) s.heap.size)) (cells := 0) (slots := 0) (T := TL_) (bc := cL_claimed) (hd := []) (nL := 5) (xs := none) (mt := sm_mt) (cs := sm_cl []) (rk := 0) (d := 0) (K := xL_K g (claimedR g k w)) C0 hml hA hN v_cok v_lok v_ka v_tok_L (sm_spok_cl (fun q hq => by cases hq)) ⟨Nat.le_of_ble_eq_true rfl, Nat.le_of_ble_eq_true rfl, Nat.le_of_ble_eq_true rfl, Nat.le_of_ble_eq_true rfl⟩
    (fun pc a H locs u hPu hSu => ⟨fun x hdec _ hKx => W.widen (k := 1) (n := 6) (Nat.zero_le _) (Nat.zero_le _) (ret1 pc a H locs u x hPu hSu hdec hKx), fun x hdec h2 hKx => (by cases h2), fun x hdec h3 hKx => (by cases h3), fun hdec h4 hKx => (by cases h4)⟩)
  have v1 := wL_claimed _ _ _ w1 (fun _ _ _ _ => rfl) g k w
  have v0 := wL_claimed _ _ _ w0 (fun _ _ _ _ => rfl) g k w
  rw [lg_entry_eq]
  refine v0.1 ?_ _ s.heap [] ?_ hP va_S.rf
  · intro a H locs hlv hPH hSH
    have hcw : CallW (headSpec (Cond.codeWith yL_claimed cL_claimed 5 (some .int) xL_hh :: sm_BW) xL_rm).room s (([.ref 0, .int k, .int w, .ref 52] : List Value).map (sm_tr ad)).toArray RL RX9 7 yX9_claimed cX9_claimed 3 (some .int) (Cond.code yX9_claimed cX9_claimed 3 (some .int) :: sm_BW) x9_rm 1 6 2 :=
      ⟨callB_of 2 hbw (sm_goodIn mok_X9_claimed) rfl rfl rfl (hbw _ mok_X9_claimed.2.1) (hbw _ yL9_claimed.1) ⟨mok_X9_claimed.2.2.2.1, mok_X9_claimed.2.2.2.2.1, by decide +kernel⟩ ⟨Nat.le_of_ble_eq_true rfl, Nat.le_of_ble_eq_true rfl⟩, hbw _ yL9_claimed.2.1, hbw _ yL9_claimed.2.2⟩
    have hpre : ∀ U : State, U.heap = H → s.WarmedH U.vm → x9_W D ad cA H.size g U := fun U hU hW => by
      refine ⟨⟨by rw [hU], by rw [hU]; exact hPH, va_K.moved hW.alike hK, (hDg g).self, sm_nest_warm hW hN⟩, ht.go hW (fun q h1 h2 => by rw [hU]; exact hSH.2.1 q h1 h2) (fun q hq => ?_)⟩
      rcases hq with hq | hq
      · exact Or.inl hq
      · exact Or.inr (Nat.le_trans hSH.1 hq)
    refine x9_callQ rfl hDg (vx_runV (As := [.int k, .int w]) (rest := [.int (nI 0), .ref (ad 52)]) (b := ad 0) ⟨hx, hbb, hml, hown, hbw⟩ (met_claimed hl D ad cA H.size g k w hi) hcw ⟨x9_blind, va_recv hK hPH (rfl : vwCl[9]? = some (RX9, TX9, 12)) (sm_pic_at (rfl : lay[0]? = some (.inl (9, _)))), fun U hU hW => ⟨rfl, hpre U hU hW⟩⟩ rfl rfl hlv.2.1 rfl (lv_room (Nat.le_of_ble_eq_true rfl)) dL_claimed.1 ⟨Nat.le_of_ble_eq_true rfl, Nat.le_of_ble_eq_true rfl⟩) hSH hA (fun q h => h) ?_ ?_
    · intro ce q9 H1 locs1 hr9 hP1 hS1 hce hcv hcl
      refine vx_catch (own := RL) (name := tNS) (E := tNS) hown [] ⟨0, 10, 13, 13⟩ [] (by rw [htab]; rfl) (fun z hz => by cases hz) (by decide) (by decide) (hbw _ xL_cl) (va_Nw.use rfl (ht.2.2.1 _ List.mem_cons_self)) hce hcv hcl ?_
      refine lv_astore (lv := sm_as ad 0 [some (.ref 0), some (.int k), some (.int w), some (.ref 52), none]) hx hbb dL_claimed.2 hlv.2 (by decide) rfl (fun ls' hl' => ?_)
      refine v1.2.2 (Or.inr ⟨hr9, rfl, rfl⟩) ls' H1 locs1 ⟨hlv.1, lv_less hl' (fun q hq => ?_)⟩ hP1 hS1
      refine List.mem_cons_of_mem _ (List.mem_filter.mpr ⟨hq, ?_⟩)
      have hq2 : q ∈ [((0 : Nat), sm_tr ad (.ref 0)), (1, sm_tr ad (.int k)), (2, sm_tr ad (.int w)), (3, sm_tr ad (.ref 52))] := hq
      rcases List.mem_cons.mp hq2 with rfl | hq2
      · rfl
      · rcases List.mem_cons.mp hq2 with rfl | hq2
        · rfl
        · rcases List.mem_cons.mp hq2 with rfl | hq2
          · rfl
          · rcases List.mem_cons.mp hq2 with rfl | hq2
            · rfl
            · exact absurd hq2 List.not_mem_nil
    · intro v u H1 locs1 hv hP1 hS1
      obtain ⟨rfl, x, hr9, rfl⟩ := hv
      exact v1.2.1 x (Or.inl ⟨x, hr9, rfl, rfl⟩) a H1 locs1 hlv hP1 hS1
  · exact sm_entry (as := [.ref 0, .int k, .int w, .ref 52]) (Nat.le_of_ble_eq_true rfl) (fun v hv x => by
      rcases List.mem_cons.mp hv with rfl | hv
      · exact fun h => by cases h
      · rcases List.mem_cons.mp hv with rfl | hv
        · exact fun h => by cases h
        · rcases List.mem_cons.mp hv with rfl | hv
          · exact fun h => by cases h
          · rcases List.mem_cons.mp hv with rfl | hv
            · exact fun h => by cases h
            · exact absurd hv List.not_mem_nil)

set_option maxHeartbeats 4000000 in
set_option maxRecDepth 100000 in
theorem wL_place (K : Option Value → sm_G → Prop) (J : Nat → sm_Lo → List Value → sm_G → Prop) (S : Nat → Nat → sm_Lo → List Value → sm_G → Prop) (hW : sm_walk lay NL_place (sm_cl []) none 0 K J S) (hS0 : ∀ pc ls st g, S 0 pc ls st g = J pc ls st g) (g : sm_G) (k w : Int32) :
    (J 5 [some (.ref 0), some (.int k), some (.int w), some (.ref 52), none] [.int w, .int k, .ref 0, .int (nI 0), .ref 52] g → J 0 [some (.ref 0), some (.int k), some (.int w), some (.ref 52), none] [] g) ∧
    (∀ x : Int32, K (some (.int (nI 0))) (gL g 52 (vp_updL (rL g 52) 0 x.toInt64)) → J 8 [some (.ref 0), some (.int k), some (.int w), some (.ref 52), none] [.int x, .int (nI 0), .ref 52] g) ∧
    (K (some (.int (nI 1))) g → J 15 [some (.ref 0), some (.int k), some (.int w), some (.ref 52), none] [] g) := by
  have hn := n_L_place
  have hf := fd_all
  have ha := ar_all
  generalize NL_place = N at hn hW
  generalize lay = L at hf ha hW
  obtain ⟨hS, hR⟩ := hW
  refine ⟨fun h => ?_, fun x h => ?_, fun h => ?_⟩
  · apply hR 4
    simp (maxSteps := 10000000) (disch := omega) only [hS, hn, sm_eqs, hf, ha, sm_b0, Int.reduceToNat, ↓reduceIte, Nat.reduceEqDiff, true_and, and_true, List.length_nil, List.length_cons, Nat.reduceAdd, Nat.reduceLeDiff, Nat.zero_le, false_implies, true_implies, not_true_eq_false, not_false_eq_true, implies_true, Nat.reduceSub, Nat.reduceMul, Nat.reduceDiv, reduceCtorEq, tn_clamp, nI_t, tn_nI, nI_add, pk_mul, rS_gS, rS_gA, rS_gL, rA_gS, rA_gA, rA_gL, rL_gS, rL_gA, rL_gL, and_self, and_false, false_and, if_true, if_false, true_or, or_true, or_false, false_or, sm_in, eqI, sI_s, Int32.toInt_zero, Int.natCast_zero, Int.natCast_one, Int.cast_ofNat_Int, Int.reduceEq, Int.reduceLT, Int.reduceLE, Int.reduceNeg, Int.reduceNe, ne_eq, n_up, g_up, e_cat, fr_A, fr_O, fr_P, fr_L, hS0]
    clear hn hf ha hS hR
    first
    | exact h
    | fail "G"
  · apply hR 6
    simp (maxSteps := 10000000) (disch := omega) only [hS, hn, sm_eqs, hf, ha, sm_b0, Int.reduceToNat, ↓reduceIte, Nat.reduceEqDiff, true_and, and_true, List.length_nil, List.length_cons, Nat.reduceAdd, Nat.reduceLeDiff, Nat.zero_le, false_implies, true_implies, not_true_eq_false, not_false_eq_true, implies_true, Nat.reduceSub, Nat.reduceMul, Nat.reduceDiv, reduceCtorEq, tn_clamp, nI_t, tn_nI, nI_add, pk_mul, rS_gS, rS_gA, rS_gL, rA_gS, rA_gA, rA_gL, rL_gS, rL_gA, rL_gL, and_self, and_false, false_and, if_true, if_false, true_or, or_true, or_false, false_or, sm_in, eqI, sI_s, Int32.toInt_zero, Int.natCast_zero, Int.natCast_one, Int.cast_ofNat_Int, Int.reduceEq, Int.reduceLT, Int.reduceLE, Int.reduceNeg, Int.reduceNe, ne_eq, n_up, g_up, e_cat, fr_A, fr_O, fr_P, fr_L, hS0]
    clear hn hf ha hS hR
    first
    | exact h
    | exact ⟨by decide, h⟩
    | fail "G"
  · apply hR 3
    simp (maxSteps := 10000000) (disch := omega) only [hS, hn, sm_eqs, hf, ha, sm_b0, Int.reduceToNat, ↓reduceIte, Nat.reduceEqDiff, true_and, and_true, List.length_nil, List.length_cons, Nat.reduceAdd, Nat.reduceLeDiff, Nat.zero_le, false_implies, true_implies, not_true_eq_false, not_false_eq_true, implies_true, Nat.reduceSub, Nat.reduceMul, Nat.reduceDiv, reduceCtorEq, tn_clamp, nI_t, tn_nI, nI_add, pk_mul, rS_gS, rS_gA, rS_gL, rA_gS, rA_gA, rA_gL, rL_gS, rL_gA, rL_gL, and_self, and_false, false_and, if_true, if_false, true_or, or_true, or_false, false_or, sm_in, eqI, sI_s, Int32.toInt_zero, Int.natCast_zero, Int.natCast_one, Int.cast_ofNat_Int, Int.reduceEq, Int.reduceLT, Int.reduceLE, Int.reduceNeg, Int.reduceNe, ne_eq, n_up, g_up, e_cat, fr_A, fr_O, fr_P, fr_L, hS0]
    clear hn hf ha hS hR
    first
    | exact h
    | fail "G"
theorem cwL_place : Cond.codeWith yL_place cL_place 5 (some .int) xL_hh ∈ sm_BW := sm_b5 42 rfl rfl
theorem yL9_place : Cond.methodLink RL 15 yX9_place ∈ sm_BW ∧ Cond.instanceMethod yX9_place ∈ sm_BW ∧ Cond.selects RX9 yX9_place yX9_place ∈ sm_BW := ⟨sm_b5 43 rfl rfl, sm_b5 44 rfl rfl, sm_b5 45 rfl rfl⟩
theorem dL_place : decode cL_place 5 = .ok (.invokevirtual 15, 3) ∧ decode cL_place 13 = .ok (.astore 4, 2) := ⟨by decide +kernel, by decide +kernel⟩
set_option maxHeartbeats 4000000 in
theorem metL_place {l : Launch} (hl : l.stackTraces = false) (D : va_G) (ad : Nat → Nat) (cA : Nat → ClassId) (sz : Nat) (g : sm_G) (k w : Int32) (hi : iv g) :
    vx_Met l yL_place (Cond.codeWith yL_place cL_place 5 (some .int) xL_hh :: sm_BW) xL_rm (va_Pc (([.ref 0, .int k, .int w, .ref 52] : List Value).map (sm_tr ad)) (x9_W D ad cA sz g)) (sm_post lay D ad cA sz g (xL_K g (placeR g k w))) (x9_X D ad cA sz g (some 0)) 1 6 (va_A (sm_pic lay ad cA g) sz) := by
  refine vx_ofWH (cc := cL_place) (maxL := 5) (ret := some .int) (hh := xL_hh) (by decide +kernel) rfl ?_
  intro p e s m args below meth c s₁ B hml hv
  obtain ⟨rfl, ⟨hsz, hP, hK, hD0, hN⟩, ht⟩ := hv
  have hts := atoms_spec (ws := Cond.codeWith yL_place cL_place 5 (some .int) xL_hh :: sm_BW) B.pre
  have hbw : ∀ w' ∈ sm_BW, w'.before (([.ref 0, .int k, .int w, .ref 52] : List Value).map (sm_tr ad)).toArray s = true := fun w' hw => hts w' (List.mem_cons_of_mem _ hw)
  have hown : s.vm.findClass RL = some m.cls := findClass_of_methodNamed B.named
  have hlocks := B.notSynchronized
  have htab := vx_table (x := yL_place) B (hts _ List.mem_cons_self)
  subst hsz
  have hDg : ∀ g', va_D (va_A (sm_pic lay ad cA g) s.heap.size) (sm_pic lay ad cA g') := fun g' => sm_pic_D hD0.self g'
  have C0 : sm_ctx p s m (([.ref 0, .int k, .int w, .ref 52] : List Value).map (sm_tr ad)).toArray c D ad cA (va_A (sm_pic lay ad cA g) s.heap.size) s.heap lay TL_.1 cL_place none :=
    ⟨B.exec, B.bytes, hown, hbw, hK, hDg, fun q hq => by cases hq⟩
  have hA : ∀ q, s.heap.size ≤ q → va_A (sm_pic lay ad cA g) s.heap.size q := fun q h => Or.inr h
  have hx := B.exec
  have hbb := B.bytes
  have hr := B.returns
  have ret1 : ∀ (pc : Nat) (a : Array Slot) (H : Heap) (locs : List Loc) (u : sm_G) (x : Int32), va_P D vwCl (sm_pic lay ad cA u) H → va_S (va_A (sm_pic lay ad cA g) s.heap.size) s.heap H locs → decode cL_place pc = .ok (.ireturn, 1) → xL_K g (placeR g k w) (some (.int x)) u →
      W p l e (headSpec (Cond.codeWith yL_place cL_place 5 (some .int) xL_hh :: sm_BW) xL_rm).room s m (([.ref 0, .int k, .int w, .ref 52] : List Value).map (sm_tr ad)).toArray below meth c H locs 1 6 (vx_MQ below (sm_post lay D ad cA s.heap.size g (xL_K g (placeR g k w))) (x9_X D ad cA s.heap.size g (some 0)) (([.ref 0, .int k, .int w, .ref 52] : List Value).map (sm_tr ad)).toArray s 1 6 (va_A (sm_pic lay ad cA g) s.heap.size)) (F0 m pc a [.int x]) :=
    fun pc a H locs u x hPu hSu hdec hKx => vx_ret (W.iret hx hbb hr (fun t ht _ => ⟨⟨some (.int x), u, rfl, hKx, by rw [ht]; exact hPu⟩, hSu.F ht⟩) hSu.2.2 hdec)
  have w1 := sm_walks (p := p) (l := l) (e := e) (R := (headSpec (Cond.codeWith yL_place cL_place 5 (some .int) xL_hh :: sm_BW) xL_rm).room) (below := below) (meth := meth) (Q := vx_MQ below (sm_post lay D ad cA s.heap.size g (xL_K g (placeR g k w))) (x9_X D ad cA s.heap.size g (some 0)) (([.ref 0, .int k, .int w, .ref 52] : List Value).map (sm_tr ad)).toArray s 1 6 (va_A (sm_pic lay ad cA g) s.heap.size)) (cells := 1) (slots := 6) (T := TL_) (bc := cL_place) (hd := []) (nL := 5) (xs := none) (mt := sm_mt) (cs := sm_cl []) (rk := 0) (d := 0) (K := xL_K g (placeR g k w)) C0 hml hA hN v_cok v_lok v_ka v_tok_L (sm_spok_cl (fun q hq => by cases hq)) ⟨Nat.le_of_ble_eq_true rfl, Nat.le_of_ble_eq_true rfl, Nat.le_of_ble_eq_true rfl, Nat.le_of_ble_eq_true rfl⟩
    (fun pc a H locs u hPu hSu => ⟨fun x hdec _ hKx => ret1 pc a H locs u x hPu hSu hdec hKx, fun x hdec h2 hKx => (by cases h2), fun x hdec h3 hKx => (by cases h3), fun hdec h4 hKx => (by cases h4)⟩)
  have w0 := sm_walks (p := p) (l := l) (e := e) (R := (headSpec (Cond.codeWith yL_place cL_place 5 (some .int) xL_hh :: sm_BW) xL_rm).room) (below := below) (meth := meth) (Q := vx_MQ below (sm_post lay D ad cA s.heap.size g (xL_K g (placeR g k w))) (x9_X D ad cA s.heap.size g (some 0)) (([.ref 0, .int k, .int w, .ref 52] : List Value).map (sm_tr ad)).toArray s 1 6 (va_A (sm_pic lay ad cA g) s.heap.size)) (cells := 0) (slots := 0) (T := TL_) (bc := cL_place) (hd := []) (nL := 5) (xs := none) (mt := sm_mt) (cs := sm_cl []) (rk := 0) (d := 0) (K := xL_K g (placeR g k w)) C0 hml hA hN v_cok v_lok v_ka v_tok_L (sm_spok_cl (fun q hq => by cases hq)) ⟨Nat.le_of_ble_eq_true rfl, Nat.le_of_ble_eq_true rfl, Nat.le_of_ble_eq_true rfl, Nat.le_of_ble_eq_true rfl⟩
    (fun pc a H locs u hPu hSu => ⟨fun x hdec _ hKx => W.widen (k := 1) (n := 6) (Nat.zero_le _) (Nat.zero_le _) (ret1 pc a H locs u x hPu hSu hdec hKx), fun x hdec h2 hKx => (by cases h2), fun x hdec h3 hKx => (by cases h3), fun hdec h4 hKx => (by cases h4)⟩)
  have v1 := wL_place _ _ _ w1 (fun _ _ _ _ => rfl) g k w
  have v0 := wL_place _ _ _ w0 (fun _ _ _ _ => rfl) g k w
  rw [lg_entry_eq]
  refine v0.1 ?_ _ s.heap [] ?_ hP va_S.rf
  · intro a H locs hlv hPH hSH
    have hcw : CallW (headSpec (Cond.codeWith yL_place cL_place 5 (some .int) xL_hh :: sm_BW) xL_rm).room s (([.ref 0, .int k, .int w, .ref 52] : List Value).map (sm_tr ad)).toArray RL RX9 15 yX9_place cX9_place 3 (some .int) (Cond.code yX9_place cX9_place 3 (some .int) :: sm_BW) x9_rm 1 6 2 :=
      ⟨callB_of 2 hbw (sm_goodIn mok_X9_place) rfl rfl rfl (hbw _ mok_X9_place.2.1) (hbw _ yL9_place.1) ⟨mok_X9_place.2.2.2.1, mok_X9_place.2.2.2.2.1, by decide +kernel⟩ ⟨Nat.le_of_ble_eq_true rfl, Nat.le_of_ble_eq_true rfl⟩, hbw _ yL9_place.2.1, hbw _ yL9_place.2.2⟩
    have hpre : ∀ U : State, U.heap = H → s.WarmedH U.vm → x9_W D ad cA H.size g U := fun U hU hW => by
      refine ⟨⟨by rw [hU], by rw [hU]; exact hPH, va_K.moved hW.alike hK, (hDg g).self, sm_nest_warm hW hN⟩, ht.go hW (fun q h1 h2 => by rw [hU]; exact hSH.2.1 q h1 h2) (fun q hq => ?_)⟩
      rcases hq with hq | hq
      · exact Or.inl hq
      · exact Or.inr (Nat.le_trans hSH.1 hq)
    refine x9_callQ rfl hDg (vx_runV (As := [.int k, .int w]) (rest := [.int (nI 0), .ref (ad 52)]) (b := ad 0) ⟨hx, hbb, hml, hown, hbw⟩ (met_place hl D ad cA H.size g k w hi) hcw ⟨x9_blind, va_recv hK hPH (rfl : vwCl[9]? = some (RX9, TX9, 12)) (sm_pic_at (rfl : lay[0]? = some (.inl (9, _)))), fun U hU hW => ⟨rfl, hpre U hU hW⟩⟩ rfl rfl hlv.2.1 rfl (lv_room (Nat.le_of_ble_eq_true rfl)) dL_place.1 ⟨Nat.le_of_ble_eq_true rfl, Nat.le_of_ble_eq_true rfl⟩) hSH hA (fun q h => h) ?_ ?_
    · intro ce q9 H1 locs1 hr9 hP1 hS1 hce hcv hcl
      refine vx_catch (own := RL) (name := tNS) (E := tNS) hown [] ⟨0, 10, 13, 13⟩ [] (by rw [htab]; rfl) (fun z hz => by cases hz) (by decide) (by decide) (hbw _ xL_cl) (va_Nw.use rfl (ht.2.2.1 _ List.mem_cons_self)) hce hcv hcl ?_
      refine lv_astore (lv := sm_as ad 0 [some (.ref 0), some (.int k), some (.int w), some (.ref 52), none]) hx hbb dL_place.2 hlv.2 (by decide) rfl (fun ls' hl' => ?_)
      refine v1.2.2 (Or.inr ⟨hr9, rfl, rfl⟩) ls' H1 locs1 ⟨hlv.1, lv_less hl' (fun q hq => ?_)⟩ hP1 hS1
      refine List.mem_cons_of_mem _ (List.mem_filter.mpr ⟨hq, ?_⟩)
      have hq2 : q ∈ [((0 : Nat), sm_tr ad (.ref 0)), (1, sm_tr ad (.int k)), (2, sm_tr ad (.int w)), (3, sm_tr ad (.ref 52))] := hq
      rcases List.mem_cons.mp hq2 with rfl | hq2
      · rfl
      · rcases List.mem_cons.mp hq2 with rfl | hq2
        · rfl
        · rcases List.mem_cons.mp hq2 with rfl | hq2
          · rfl
          · rcases List.mem_cons.mp hq2 with rfl | hq2
            · rfl
            · exact absurd hq2 List.not_mem_nil
    · intro v u H1 locs1 hv hP1 hS1
      obtain ⟨rfl, x, hr9, rfl⟩ := hv
      exact v1.2.1 x (Or.inl ⟨x, hr9, rfl, rfl⟩) a H1 locs1 hlv hP1 hS1
  · exact sm_entry (as := [.ref 0, .int k, .int w, .ref 52]) (Nat.le_of_ble_eq_true rfl) (fun v hv x => by
      rcases List.mem_cons.mp hv with rfl | hv
      · exact fun h => by cases h
      · rcases List.mem_cons.mp hv with rfl | hv
        · exact fun h => by cases h
        · rcases List.mem_cons.mp hv with rfl | hv
          · exact fun h => by cases h
          · rcases List.mem_cons.mp hv with rfl | hv
            · exact fun h => by cases h
            · exact absurd hv List.not_mem_nil)

