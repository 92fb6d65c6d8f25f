/-! A METHOD'S CONTRACT out of its body's spec. -/
def sm_host : String := "FoundOffice"
def sm_yIn : MethodName := ⟨"FoundOffice", "isIn", "(JI)Z"⟩
def sm_nest (U : State) : Prop := va_Nw (.methodLinkNest "FoundOffice$Group" 67 sm_yIn sm_host) U ∧ va_Nw (.methodLinkNest "FoundOffice$Match" 81 sm_yIn sm_host) U ∧ va_Nw (.methodLinkNest "FoundOffice$Asking" 45 sm_yIn sm_host) U
theorem sm_nest_warm {s U : State} (h : s.WarmedH U.vm) (n : sm_nest s) : sm_nest U := ⟨va_Nw.warmM h n.1, va_Nw.warmM h n.2.1, va_Nw.warmM h n.2.2⟩
def sm_world (lay : List ((Nat × List Nat) ⊕ (Nat × Nat))) (D : va_G) (ad : Nat → Nat) (cA : Nat → ClassId) (sz : Nat) (g : sm_G) (U : State) : Prop :=
  U.heap.size = sz ∧ va_P D vwCl (sm_pic lay ad cA g) U.heap ∧ va_K D vwCl (sm_tys cA) U ∧ va_D (va_A (sm_pic lay ad cA g) sz) (sm_pic lay ad cA g) ∧ sm_nest U
def sm_post (lay : List ((Nat × List Nat) ⊕ (Nat × Nat))) (D : va_G) (ad : Nat → Nat) (cA : Nat → ClassId) (sz : Nat) (g : sm_G) (K : Option Value → sm_G → Prop) : Array Value → State → Outcome → State → Prop := fun _ st oc t =>
  (∃ (v : Option Value) (u : sm_G), oc = .returned (v.map (sm_tr ad)) ∧ K v u ∧ va_P D vwCl (sm_pic lay ad cA u) t.heap) ∧ va_F (va_A (sm_pic lay ad cA g) sz) st t
def sm_rm (d : Nat) : Room := { frames := d, cells := 0, slots := 0, locals := 40 * d }
/-- a method, its code, and what is known of them -/
abbrev sm_M : Type := MethodName × ByteArray × Nat × Option FieldType
def sm_mok (y : sm_M) : Prop := Cond.code y.1 y.2.1 y.2.2.1 y.2.2.2 ∈ sm_BW ∧ Cond.initialized y.1.cls ∈ sm_BW ∧ plainName y.1.cls = true ∧ y.1.cls ≠ "java/lang/invoke/MethodHandle" ∧ y.1.cls ≠ "java/lang/invoke/VarHandle" ∧ y.2.2.1 ≤ 21
def sm_met (l : Launch) (lay : List ((Nat × List Nat) ⊕ (Nat × Nat))) (y : sm_M) (d : Nat) (sp : sm_SP) : Prop :=
  ∀ (D : va_G) (ad : Nat → Nat) (cA : Nat → ClassId) (sz : Nat) (as : List Value) (g : sm_G) (K : Option Value → sm_G → Prop), sp as g K →
    Met l y.1 (Cond.code y.1 y.2.1 y.2.2.1 y.2.2.2 :: sm_BW) (sm_rm d) (va_Pc (as.map (sm_tr ad)) (sm_world lay D ad cA sz g)) (sm_post lay D ad cA sz g K) 0 0 (va_A (sm_pic lay ad cA g) sz)
/-- what a spec says of its arguments: they fit, none is a double; an instance method's first is one of its class -/
def sm_wf (lay : List ((Nat × List Nat) ⊕ (Nat × Nat))) (y : sm_M) (n : Nat) (st : Bool) (sp : sm_SP) : Prop := ∀ as g K, sp as g K → (sm_arg as).length ≤ y.2.2.1 ∧ (∀ v ∈ as, ∀ x, v ≠ .double x) ∧ as.length = n ∧
  (st = false → ∃ pl As ci ds T N, as = .ref pl :: As ∧ lay[pl]? = some (.inl (ci, ds)) ∧ vwCl[ci]? = some (y.1.cls, T, N))
/-- a method that does what a spec says, from the depth d on -/
def sm_ok (l : Launch) (lay : List ((Nat × List Nat) ⊕ (Nat × Nat))) (y : sm_M) (n : Nat) (st : Bool) (d : Nat) (sp : sm_SP) : Prop := sm_wf lay y n st sp ∧ ∀ d', d ≤ d' → sm_met l lay y d' sp
/-- a place where a method is called: 0 virtual, 1 static, 2 static out of the nest, 3 max, 4 min -/
def sm_site (own : String) (raw : Instr) (y : sm_M) (n : Nat) (st : Bool) (kind : Nat) : Prop :=
  sm_mok y ∧ match kind with
  | 0 => ∃ ix, raw = .invokevirtual ix ∧ st = false ∧ (parseMethodDescriptor y.1.desc).map (fun d => d.parameters.length + 1) = some n ∧ Cond.methodLink own ix y.1 ∈ sm_BW ∧ Cond.instanceMethod y.1 ∈ sm_BW ∧ Cond.selects y.1.cls y.1 y.1 ∈ sm_BW
  | 1 => ∃ ix, raw = .invokestatic ix ∧ st = true ∧ (parseMethodDescriptor y.1.desc).map (fun d => d.parameters.length) = some n ∧ Cond.methodLink own ix y.1 ∈ sm_BW ∧ Cond.static y.1 ∈ sm_BW
  | 2 => ∃ ix, raw = .invokestatic ix ∧ st = true ∧ (parseMethodDescriptor y.1.desc).map (fun d => d.parameters.length) = some n ∧ (∀ U, sm_nest U → va_Nw (.methodLinkNest own ix y.1 sm_host) U) ∧ Cond.static y.1 ∈ sm_BW
  | _ => False
theorem sm_good {w : Cond} (h : w ∈ sm_BW) : (w.onTables && w.keeps) = true ∨ ∃ ty, w = .arrayClass ty := good_of_word (List.mem_filter.mp h).2
theorem sm_goodIn {y : sm_M} (h : sm_mok y) : GoodIn sm_BW (Cond.code y.1 y.2.1 y.2.2.1 y.2.2.2 :: sm_BW) := fun w hw => by
  rcases List.mem_cons.mp hw with rfl | hw
  · exact ⟨h.1, sm_good h.1⟩
  · exact ⟨hw, sm_good hw⟩
section SMK
variable {p : Program} {l : Launch} {e : Env} {R : Room} {s : State} {m : MethodId} {args : Array Value} {below : List Frame} {meth : Method} {c : Code} {Q : State → Prop}
variable {D : va_G} {ad : Nat → Nat} {cA : Nat → ClassId} {A : Nat → Prop} {H0 : Heap} {lay : List ((Nat × List Nat) ⊕ (Nat × Nat))} {nL cells slots : Nat}
theorem sm_callQ {H : Heap} {locs : List Loc} {pc : Nat} {ls : Array Slot} {st0 rest : List Value} {av : Array Value} {sz : Nat} {g : sm_G} {K : Option Value → sm_G → Prop} {free : Addr → Prop} (hsz : H.size = sz) (hD : ∀ g, va_D A (sm_pic lay ad cA g))
    (hr : va_Run p l e R s m args below meth c H locs cells slots 0 0 (F0 m pc ls st0) rest (sm_post lay D ad cA sz g K av) free) (hS : va_S A H0 H locs) (hA : ∀ q, H0.size ≤ q → A q) (hf : ∀ q, free q → va_A (sm_pic lay ad cA g) sz q)
    (kk : ∀ (v : Option Value) (u : sm_G) (H1 : Heap) (locs1 : List Loc), K v u → va_P D vwCl (sm_pic lay ad cA u) H1 → va_S A H0 H1 locs1 → W p l e R s m args below meth c H1 locs1 cells slots Q (F0 m (pc + 3) ls ((v.map (sm_tr ad)).toList ++ rest))) : W p l e R s m args below meth c H locs cells slots Q (F0 m pc ls st0) := by
  have hA1 : ∀ q, va_A (sm_pic lay ad cA g) sz q → A q := fun q hq => by
    rcases hq with ⟨k, e, hk⟩ | hq
    · exact (hD g).2 k _ hk
    · exact hA q (Nat.le_trans hS.1 (by rw [hsz]; exact hq))
  intro T hT X
  obtain ⟨v, st₀, t, T', L, h0, X', hL, e1, e2, ⟨⟨w, u, hv, hp, hb⟩, hz, hkk⟩, st⟩ := hr T hT X
  cases hv
  rw [h0] at hz hkk
  obtain ⟨t2, a1, b1⟩ := kk w u T'.heap (locs ++ L) hp (by rw [e1]; exact hb)
    ⟨Nat.le_trans hS.1 (by rw [e1]; exact hz), fun q h1 h2 => by rw [e1, hkk q (Nat.lt_of_lt_of_le h1 hS.1) (fun z => h2 (hA1 q z))]; exact hS.2.1 q h1 h2, fun q hq => by
      rcases List.mem_append.mp hq with h | h
      · exact hS.2.2 q h
      · exact hA1 _ (hf _ (hL q h))⟩ T' rfl X'
  exact ⟨t2, st t2 a1, b1⟩
theorem sm_blind {D : va_G} {sz : Nat} {g : sm_G} {av : List Value} : FrameBlind (va_Pc av (sm_world lay D ad cA sz g)) := fun a U f mk h => by
  obtain ⟨h0, h1, h2, h3, h4, h5⟩ := h
  exact ⟨h0, h1, h2, va_K.moved (u := U) (U := U.calling f mk a) (Vm.Alike.refl U.vm) h3, h4, va_Nw.same (u := U) rfl rfl h5.1, va_Nw.same (u := U) rfl rfl h5.2.1, va_Nw.same (u := U) rfl rfl h5.2.2⟩
theorem sm_room5 {pc : Nat} {ls : Array Slot} {st r : List Value} (h : r.length ≤ 4) : 2 * (F0 m pc ls st).monitorRoom + ((r.map (sm_tr ad)).map fun v => v.category).sum ≤ 8 := by
  refine lv_room ?_
  have : ∀ (r : List Value), ((r.map (sm_tr ad)).map fun v => v.category).sum ≤ 2 * r.length := by
    intro r
    induction r with
    | nil => simp
    | cons v r ih =>
      have : (sm_tr ad v).category ≤ 2 := by cases v <;> simp [sm_tr, Value.category]
      simp only [List.map_cons, List.sum_cons, List.length_cons]
      omega
  have := this r
  omega
/-- a call out of a place that is known -/
theorem sm_call {own : String} {bc : ByteArray} {xs : Option (Nat × (Nat → Int32))} (C0 : sm_ctx p s m args c D ad cA A H0 lay own bc xs) (hml : c.maxLocals = nL) (hA : ∀ q, H0.size ≤ q → A q) (hN : sm_nest s) {raw : Instr} {y : sm_M} {n kind d : Nat} {st : Bool} {sp : sm_SP} (hs : sm_site own raw y n st kind) (hok : sm_ok l lay y n st d sp)
    (hR : d + 1 ≤ R.frames ∧ 40 * d + 40 ≤ R.locals ∧ cells ≤ R.cells ∧ slots ≤ R.slots) : sm_callok p l e R s m args below meth c Q D ad cA A H0 lay nL cells slots bc raw n sp := by
  intro pc ls as r g K hdec hlen hr hsp hk a H locs hl hP hS
  obtain ⟨hx, hb, hown, hts, hK, hD, hX⟩ := id C0
  obtain ⟨hwf, hmet⟩ := hok
  obtain ⟨hw1, hw2, hw3, hw4⟩ := hwf as g K hsp
  obtain ⟨hm, hs⟩ := hs
  have hM := hmet d (Nat.le_refl _) D ad cA H.size as g K hsp
  have hGI := sm_goodIn hm
  obtain ⟨hm1, hm2, hm3, hm4, hm5, hm6⟩ := hm
  have hfr : (sm_rm d).frames + 1 ≤ R.frames ∧ 8 + (y.2.2.1 + 11) + (sm_rm d).locals ≤ R.locals := ⟨hR.1, by show _ + 40 * d ≤ _; omega⟩
  have hpre : ∀ U : State, U.heap = H → s.WarmedH U.vm → sm_world lay D ad cA H.size g U := fun U hU hW => by
    refine ⟨by rw [hU], by rw [hU]; exact hP, va_K.moved hW.alike hK, (hD g).self, sm_nest_warm hW hN⟩
  match kind, hs with
  | 0, hs =>
    obtain ⟨ix, rfl, rfl, hpar, hl1, hl2, hl3⟩ := hs
    obtain ⟨pl, As, ci, ds, T, N, rfl, hlay, hci⟩ := hw4 rfl
    have hpar' : (parseMethodDescriptor y.1.desc).map (fun d => d.parameters.length) = some As.length := by
      cases hpd : parseMethodDescriptor y.1.desc with
      | none => rw [hpd] at hpar; cases hpar
      | some q => rw [hpd] at hpar; simp at hpar hlen ⊢; omega
    have hcw : CallW R s args own y.1.cls ix y.1 y.2.1 y.2.2.1 y.2.2.2 (Cond.code y.1 y.2.1 y.2.2.1 y.2.2.2 :: sm_BW) (sm_rm d) 0 0 As.length :=
      ⟨callB_of As.length hts hGI rfl rfl rfl (hts _ hm2) (hts _ hl1) ⟨hm4, hm5, hpar'⟩ hfr, hts _ hl2, hts _ hl3⟩
    refine sm_callQ rfl hD (va_runV (As := As.map (sm_tr ad)) (rest := r.map (sm_tr ad)) (b := ad pl) ⟨hx, hb, hml, hown, hts⟩ hM hcw ⟨sm_blind, va_recv hK hP hci (sm_pic_at hlay), fun U hU hW => ⟨rfl, hpre U hU hW⟩⟩ rfl (by simp) hl.2.1 (by simp [sm_tr]) (sm_room5 hr) hdec ⟨hR.2.2.1, hR.2.2.2⟩) hS hA (fun q h => h) (fun v u H1 locs1 hv hP1 hS1 => ?_)
    have := hk v u hv a H1 locs1 hl hP1 hS1
    cases v with
    | none => exact this
    | some w => exact this
  | 1, hs =>
    obtain ⟨ix, rfl, rfl, hpar, hl1, hl2⟩ := hs
    have hcw : CallB R s args own ix y.1 y.2.1 y.2.2.1 y.2.2.2 (Cond.code y.1 y.2.1 y.2.2.1 y.2.2.2 :: sm_BW) (sm_rm d) 0 0 n ∧ (Cond.static y.1).before args s = true :=
      ⟨callB_of n hts hGI rfl rfl rfl (hts _ hm2) (hts _ hl1) ⟨hm4, hm5, hpar⟩ hfr, hts _ hl2⟩
    refine sm_callQ rfl hD (va_runS (As := as.map (sm_tr ad)) (rest := r.map (sm_tr ad)) ⟨hx, hb, hml, hown, hts⟩ hM hcw ⟨sm_blind, fun U hU hW => ⟨rfl, hpre U hU hW⟩⟩ rfl (by simp [hlen]) hl.2.1 (by simp) (sm_room5 hr) hdec ⟨hR.2.2.1, hR.2.2.2⟩) hS hA (fun q h => h) (fun v u H1 locs1 hv hP1 hS1 => ?_)
    have := hk v u hv a H1 locs1 hl hP1 hS1
    cases v with
    | none => exact this
    | some w => exact this
  | 2, hs =>
    obtain ⟨ix, rfl, rfl, hpar, hl1, hl2⟩ := hs
    have hcw : va_CN R s args own ix y.1 sm_host y.2.1 y.2.2.1 y.2.2.2 (Cond.code y.1 y.2.1 y.2.2.1 y.2.2.2 :: sm_BW) (sm_rm d) 0 0 n ∧ (Cond.static y.1).before args s = true ∧ True :=
      ⟨va_cnB n hts hGI rfl rfl rfl (hl1 s hN) (hts _ hm2) ⟨hm4, hm5, hpar⟩ hfr, hts _ hl2, trivial⟩
    refine sm_callQ rfl hD (va_runSN (As := as.map (sm_tr ad)) (rest := r.map (sm_tr ad)) ⟨hx, hb, hml, hown, hts⟩ hM hcw ⟨sm_blind, fun U hU hW => ⟨rfl, hpre U hU hW⟩⟩ rfl (by simp [hlen]) hl.2.1 (by simp) (sm_room5 hr) hdec ⟨hR.2.2.1, hR.2.2.2⟩) hS hA (fun q h => h) (fun v u H1 locs1 hv hP1 hS1 => ?_)
    have := hk v u hv a H1 locs1 hl hP1 hS1
    cases v with
    | none => exact this
    | some w => exact this
end SMK
