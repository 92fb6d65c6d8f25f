/-! A throw of a class whose constructor takes a text and whose own entry is any number (launches without traces); it follows the library's row for the entry 7. -/
def tOw (own : String) (ic : Nat) (X : String) (ix : Nat) (rx : ByteArray) (Y : String) (names : List String) : List Cond :=
  Bundle.throwableAtoms ++ Bundle.throwableSAtoms ++ (Bundle.passSAtoms X Y ix rx ++ Bundle.chainSAtoms Y names) ++
  [.methodLink own ic (Bundle.initS X), .instantiable X 6, .castable X X, .selects X Bundle.tFill0 Bundle.tFill0, .selects X Bundle.tFill Bundle.tFill,
   .lays X Bundle.tN "cause" "Ljava/lang/Throwable;", .lays X Bundle.tN "stackTrace" Bundle.steD, .lays X Bundle.tN "suppressedExceptions" Bundle.listD, .lays X Bundle.tN "detailMessage" "Ljava/lang/String;",
   .isRef (.static Bundle.tN "UNASSIGNED_STACK" Bundle.steD), .isRef (.static Bundle.tN "SUPPRESSED_SENTINEL" Bundle.listD),
   .fieldLink Bundle.tN 198 Bundle.tN "backtrace" "Ljava/lang/Object;", .lays Bundle.tN Bundle.tN "backtrace" "Ljava/lang/Object;", .lays X Bundle.tN "backtrace" "Ljava/lang/Object;"]
section TCX
variable {p : Program} {l : Launch} {e : Env} {R : Room} {s : State} {m : MethodId} {args : Array Value} {below : List Frame} {meth : Method} {c : Code} {T0 : State} {locs : List Loc} {cells slots : Nat}
set_option maxHeartbeats 1000000 in
theorem tx_ctor (X : Stand p l e R s m args below meth c T0 locs cells slots) (hexec : p.tables.exec = Jvm.exec) (htr : e.platform.stackTraces = false) {own cls Y0 : String} {names : List String} {ic ix : Nat} {rx : ByteArray}
    (x0 : decode rx 0 = .ok (.aload_n 0, 1)) (x1 : decode rx 1 = .ok (.aload_n 1, 1)) (x2 : decode rx 2 = .ok (.invokespecial ix, 3)) (x5 : decode rx 5 = .ok (.return_, 1))
    (hown : s.vm.findClass own = some m.cls) (hcls : Bundle.fit cls = true) (hY0 : Bundle.fit Y0 = true) (hnames : ∀ n ∈ names, Bundle.fit n = true)
    (h : ∀ a ∈ tOw own ic cls ix rx Y0 names, a.before args s = true)
    (hlocs : ∀ x ∈ locs, ∀ cell, s.heap[x.base]? = some cell → cell.vm.isStatics = false)
    {a : Addr} {cX : ClassId} {kX : Class} (hfoundX : s.vm.findClass cls = some cX) (hkX : s.vm.classes[cX]? = some kX) (hcell : T0.heap[a]? = some (freshCell cX kX)) (hnew : s.heap.size ≤ a)
    {msg : Value} (hmsg : msg.isRef = true)
    {g : JFrame} (hg : g.method = m) (hsize : g.locals.size = c.maxLocals) (hlocked : g.locked = none) (hentered : g.entered = []) {rest : List Value} (hstack : g.stack = msg :: .ref a :: .ref a :: rest)
    (hd6 : decode c.code g.pc = .ok (.invokespecial ic, 3)) (hd9 : decode c.code (g.pc + 3) = .ok (.athrow, 1)) (hout : ∀ x ∈ c.exceptionTable.toList, covers x (g.pc + 3) = false)
    (hRframes : names.length + 4 < R.frames) (hRlocals : 2 * g.monitorRoom + ((Value.ref a :: rest).map fun v => v.category).sum + (13 * (names.length + 2) + 42) ≤ R.locals) (hlocks : meth.locks = false) :
    ∃ U : State, Steps p.tables e below (T0.setTop g) U ∧ U.status = .running ∧ Ended U below (.threw a) ∧ s.WarmedH U.vm ∧ s.sameButNew ({ U with vm := s.vm } : State) locs cells slots ∧
      ∃ ce, U.heap[a]? = some ce ∧ ce.cls = cX ∧ ce.vm = .none := by
  have howns : e.platform.frameOwnsMonitors = true := by rw [X.admits.platform]
  have hfin : e.platform.finalization = false := by rw [X.admits.platform]
  have hpl : e.platform.magicAccessors = ({} : Platform).magicAccessors := by rw [X.admits.platform]
  have a' : ∀ x, x ∈ tOw own ic cls ix rx Y0 names → x.holds args s none s [] = true := fun x hx => h x hx
  obtain ⟨T, Z0, L, -, Y⟩ := ThrowableC.of_atoms (args := args) howns hfin hpl (fun x hx => h x (by simp [tOw, hx]))
  obtain ⟨Z, M, LZ, LM, hnZ⟩ := Init0T.ofS_atoms (args := args) hpl L Y (fun x hx => h x (by simp [tOw, hx]))
  obtain ⟨P1, L1, hP1m, hs1⟩ := PassC.ofS_atoms (args := args) (s := s) hpl (X := cls) (Y := Y0) (Bundle.fit_spec hcls).1 (Bundle.fit_spec hY0).2 x0 x1 x2 x5 (fun x hx => h x (by simp [tOw, hx]))
  obtain ⟨P2, Ps2, hlen2, L2, hL2, hP2m, hsup2, hpass2⟩ := Bundle.chainS (args := args) hpl hnZ names Y0 hY0 hnames (fun x hx => h x (by simp [tOw, hx]))
  have hlen : (P2 :: Ps2).length = names.length + 1 := by simp [hlen2]
  have hL : ∀ P, P ∈ P2 :: Ps2 → P.LinksS e.platform s := fun P hP => by
    rcases List.mem_cons.mp hP with rfl | hP
    · exact L2
    · exact hL2 P hP
  have hlink1 := Option.some.inj (hs1.symm.trans hP2m)
  have hfound : s.vm.findClass cls = some P1.m.cls := findClass_of_methodNamed hP1m
  cases Option.some.inj (hfoundX.symm.trans hfound)
  obtain ⟨c1, kX', hc1, hk, hord, -, -, hn6⟩ := Cond.instantiable_spec (a' (.instantiable cls 6) (by simp [tOw]))
  cases Option.some.inj (hc1.symm.trans hfound)
  cases Option.some.inj (hkX.symm.trans hk)
  have hsel0 : selectMethod e.platform s.vm P1.m.cls T.fill0 = .method T.fill0 := by
    obtain ⟨c2, r2, m2, q1, q2, q3, q4, -⟩ := Cond.selects_spec (a' (.selects cls Bundle.tFill0 Bundle.tFill0) (by simp [tOw]))
    cases Option.some.inj (q1.symm.trans hfound)
    cases Option.some.inj (q2.symm.trans (State.methodFound?_of_named Y.fill0 (by decide)))
    cases Option.some.inj (q3.symm.trans Y.fill0)
    rw [Launch.admits_selectMethod X.admits]; exact q4
  have hselF : selectMethod e.platform s.vm P1.m.cls T.fill = .method T.fill := by
    obtain ⟨c2, r2, m2, q1, q2, q3, q4, -⟩ := Cond.selects_spec (a' (.selects cls Bundle.tFill Bundle.tFill) (by simp [tOw]))
    cases Option.some.inj (q1.symm.trans hfound)
    cases Option.some.inj (q2.symm.trans (State.methodFound?_of_named Y.fill (by decide)))
    cases Option.some.inj (q3.symm.trans Y.fill)
    rw [Launch.admits_selectMethod X.admits]; exact q4
  obtain ⟨cellS0, hcS0, hiss⟩ := Y.statics
  obtain ⟨u0, hu0⟩ := Cond.staticRefV Y.unassigned L.unassignedStatic L.statics hcS0 hiss (a' (.isRef (.static Bundle.tN "UNASSIGNED_STACK" Bundle.steD)) (by simp [tOw]))
  obtain ⟨sen, hsen⟩ := Cond.staticRefV Y.sentinel L.sentinelStatic L.statics hcS0 hiss (a' (.isRef (.static Bundle.tN "SUPPRESSED_SENTINEL" Bundle.listD)) (by simp [tOw]))
  obtain ⟨ci198, i198, fB, hk198, hg198, ha198, hsB, -, hnB, htB, hffB⟩ := Cond.ownField (t := .object "java/lang/Object") Y.found L.cls (by decide +kernel) (a' (.fieldLink Bundle.tN 198 Bundle.tN "backtrace" "Ljava/lang/Object;") (by simp [tOw])) (a' (.lays Bundle.tN Bundle.tN "backtrace" "Ljava/lang/Object;") (by simp [tOw])) e.platform hpl
  obtain ⟨cellS, hcS', heS, -, hkeep⟩ := X.same.2.2.2.2.2 T.aS cellS0 hcS0
  have hcellS : T0.heap[T.aS]? = some cellS := hcS'
  have hout' : ∀ i, (⟨T.aS, i⟩ : Loc) ∉ locs := fun i hmem => by
    have := hlocs _ hmem cellS0 hcS0
    rw [hiss] at this; cases this
  have hknownS : cellS.vm ≠ .unknown := by
    rw [heS]; intro hu
    rw [show cellS0.vm = .unknown from hu] at hiss
    cases hiss
  have hneS : T.aS ≠ a := Nat.ne_of_lt (Nat.lt_of_lt_of_le (Array.getElem?_eq_some_iff.mp hcS0).1 hnew)
  obtain ⟨iM, hffM⟩ := Y.msg
  obtain ⟨tyC, dC, hdC, hdnC⟩ := Cond.laysAt hfound hk Y.cause (a' (.lays cls Bundle.tN "cause" "Ljava/lang/Throwable;") (by simp [tOw]))
  obtain ⟨tyS, dS, hdS, hdnS⟩ := Cond.laysAt hfound hk Y.stack (a' (.lays cls Bundle.tN "stackTrace" Bundle.steD) (by simp [tOw]))
  obtain ⟨tyP, dP, hdP, hdnP⟩ := Cond.laysAt hfound hk Y.supp (a' (.lays cls Bundle.tN "suppressedExceptions" Bundle.listD) (by simp [tOw]))
  obtain ⟨tyM, dM, hdM, hdnM⟩ := Cond.laysAt hfound hk hffM (a' (.lays cls Bundle.tN "detailMessage" "Ljava/lang/String;") (by simp [tOw]))
  obtain ⟨tyB, dB, hdB, hdnB⟩ := Cond.laysAt hfound hk hffB (a' (.lays cls Bundle.tN "backtrace" "Ljava/lang/Object;") (by simp [tOw]))
  have bC := Cond.laysApart hdB hdC hdnB hdnC (by rw [hnB, Y.causeName]; decide)
  have bS := Cond.laysApart hdB hdS hdnB hdnS (by rw [hnB, Y.stackName]; decide)
  have bP := Cond.laysApart hdB hdP hdnB hdnP (by rw [hnB, Y.suppName]; decide)
  have hskip : SkipFacts T e.platform s (fun u => u) u0 ((preparedCellV T.toThrowableT (freshCell P1.m.cls kX) a u0 sen).withEntry T0.cur) :=
    ⟨{ ci198 := ci198, i198 := i198, fBack := fB }, ⟨hk198, hg198, ha198, hsB⟩, by
      have := fresh_default (c := P1.m.cls) tyB
      rw [htB] at this
      simpa [preparedCellV, Cell.setSlot, Cell.withEntry, Array.getElem?_setIfInBounds, bC, bS, bP, bC.symm, bS.symm, bP.symm, defaultValue] using this, fun _ _ => rfl⟩
  obtain ⟨tm, methC, cdC, kC, vm₁, hnC, -, -, -, -, -, -, -, hW₁, st1⟩ := Steps.initColdS (tb := p.tables) (e := e) (below := below) (s := s) (U := T0) X.here hexec X.warmed hpl hown (t := Bundle.initS cls) rfl rfl (Bundle.fit_spec hcls).2
    (a' (.methodLink own ic (Bundle.initS cls)) (by simp [tOw])) (h (.instanceMethod (Bundle.initS cls)) (by simp [tOw, Bundle.passSAtoms])) (bytes := rx) (maxL := 2) (h (.code (Bundle.initS cls) rx 2 none) (by simp [tOw, Bundle.passSAtoms]))
    (f := g) hg (a := a) (msg := msg) (rest := .ref a :: rest) hstack hd6
  cases Option.some.inj (hnC.symm.trans hP1m)
  have X₁ := X.noted hW₁
  obtain ⟨vm₂, X₂, st2⟩ := X₁.ctorMessageOffV hexec (g := { g with stack := .ref a :: rest }) hg hsize T L Z LZ M LM (P1 :: P2 :: Ps2)
    (fun P hP => by rcases List.mem_cons.mp hP with rfl | hP; exact L1; exact hL P hP) ⟨hlink1, hsup2, hpass2⟩ (u0 := u0) (sen := sen) (self := a) hmsg (cell := freshCell P1.m.cls kX) (cellS := cellS)
    hcell (fun _ => by simp) (by simp) rfl rfl hsel0 hselF hcellS hneS hknownS (by rw [hkeep _ (hout' _)]; exact hu0) (by rw [hkeep _ (hout' _)]; exact hsen)
    (Takes.of_laid hk hord tyC (by rw [Y.causeType]; rfl)) (Takes.of_laid hk hord tyS (by rw [Y.stackType]; exact fits_refV_array _ u0)) (Takes.of_laid hk hord tyP (by rw [Y.suppType]; exact fits_refV_object _ sen))
    (Takes.of_laid hk hord tyM (by rw [Y.msgType]; exact fits_refV_object _ ⟨msg, hmsg⟩)) Y.objLocals hskip htr [] hd6
    (by simp only [List.length_cons, hlen2]; omega) (by simp only [List.length_cons, hlen2]; exact hRlocals)
  obtain ⟨hwalk, hrun, hended, hWU, hsame⟩ := X₂.athrowLeaves hexec (g := { g with stack := .ref a :: rest, pc := g.pc + 3 }) hg hlocked hentered hout (a := a) (rest := rest) rfl hd9
  have hlt : a < ((T0.setVm vm₁).setVm vm₂).heap.size := (Array.getElem?_eq_some_iff.mp hcell).1
  have hU := heapAt_setCell_self (s := (T0.setVm vm₁).setVm vm₂) (plainBareV T.toThrowableT (freshCell P1.m.cls kX) a u0 sen msg) hlt
  refine ⟨_, st1 _ (fun acts => ?_), hrun, hended, hWU, hsame.weaken (fun y hy hlt' => ?_) (Nat.le_refl _) (Nat.le_refl _), _, hU, rfl, rfl⟩
  · rw [doInvoke_state]
    exact st2 _ hwalk
  · rcases List.mem_append.mp hy with h1 | h1
    · exact h1
    · exfalso
      have hb : y.base = a := by
        simp only [List.mem_cons, List.not_mem_nil, or_false] at h1
        rcases h1 with rfl | rfl | rfl | rfl | rfl <;> rfl
      rw [hb] at hlt'
      exact Nat.not_lt.mpr hnew hlt'
end TCX
section TCY
variable {p : Program} {l : Launch} {e : Env} {R : Room} {s : State} {m : MethodId} {args : Array Value} {below : List Frame} {meth : Method} {c : Code} {H : Heap} {locs : List Loc} {cells slots : Nat}
variable {free : Addr → Prop} {ls : Array Slot} {rest : List Value} {Qc : Array Value → State → Outcome → State → Prop} {XC : String → State → State → Prop}
theorem tx_throw {cc : ByteArray} {pc : Nat} (hexec : p.tables.exec = Jvm.exec) (hb : c.code = cc) (hl : l.stackTraces = false) {own cls Y0 text : String} {names : List String} {ik is ic ix mc ms sa : Nat} {rx : ByteArray} {A : Nat → Prop}
    (x0 : decode rx 0 = .ok (.aload_n 0, 1)) (x1 : decode rx 1 = .ok (.aload_n 1, 1)) (x2 : decode rx 2 = .ok (.invokespecial ix, 3)) (x5 : decode rx 5 = .ok (.return_, 1))
    (hown : s.vm.findClass own = some m.cls) (hcls : Bundle.fit cls = true) (hY0 : Bundle.fit Y0 = true) (hnames : ∀ n ∈ names, Bundle.fit n = true)
    (hk : (Cond.classLink own ik cls).before args s = true) (hini : (Cond.initialized cls).before args s = true) (hstr : vk_R own is text sa s) (hat : ∀ w ∈ (tOw own ic cls ix rx Y0 names).filter vx_no, w.before args s = true)
    (hgood : ∀ w ∈ Cond.classLink own ik cls :: Cond.initialized cls :: (tOw own ic cls ix rx Y0 names).filter vx_no, vx_ot w = true)
    (hU : vx_Zq Bundle.tN "UNASSIGNED_STACK" Bundle.steD A s s.heap) (hN : vx_Zq Bundle.tN "SUPPRESSED_SENTINEL" Bundle.listD A s s.heap) (hS : va_S A s.heap H locs) (hsize : ls.size = c.maxLocals)
    (d0 : decode cc pc = .ok (.new ik, 3)) (d3 : decode cc (pc + 3) = .ok (.dup, 1)) (d4 : decode cc (pc + 4) = .ok (.ldc_w is, 3)) (d7 : decode cc (pc + 7) = .ok (.invokespecial ic, 3)) (d10 : decode cc (pc + 10) = .ok (.athrow, 1))
    (hout : ∀ x ∈ c.exceptionTable.toList, covers x (pc + 10) = false)
    (hRframes : names.length + 4 < R.frames) (hRlocals : (rest.map fun v => v.category).sum + (13 * (names.length + 2) + 43) ≤ R.locals) (hRcells : cells + 1 ≤ R.cells) (hRslots : slots + 6 ≤ R.slots) (hlocks : meth.locks = false)
    (hx : ∀ t : State, s.vm.Alike t.vm → H.size ≤ t.heap.size → (∀ q : Nat, q < H.size → t.heap[q]? = H[q]?) → XC cls s t)
    (hf : ∀ z ∈ locs, free z.base) (hc : cells + 1 ≤ mc) (hs : slots + 6 ≤ ms) :
    W p l e R s m args below meth c H locs cells slots (vx_MQ below Qc XC args s mc ms free) (F0 m pc ls rest) := by
  intro T hT X
  have htr : e.platform.stackTraces = false := (show e.platform.stackTraces = l.stackTraces by rw [X.admits.platform]).trans hl
  have Y := vx_rebase X (R' := { frames := R.frames, locals := R.locals, cells := 1, slots := 6 }) (Nat.le_refl _) (Nat.le_refl _) hRcells hRslots
  obtain ⟨s', hA⟩ : ∃ z, z = (T.setVm s.vm).setFrames (.invoking m args :: below) := ⟨_, rfl⟩
  rw [← hA] at Y
  have hvm : s'.vm = s.vm := by rw [hA]; rfl
  have hhp : s'.heap = H := by rw [hA]; exact hT
  have hW0 : s.WarmedH s'.vm := by rw [hvm]; exact State.WarmedH.refl s
  have hat' : ∀ w ∈ (tOw own ic cls ix rx Y0 names).filter vx_no, w.before args s' = true := fun w hw => vx_ot_at hW0 hvm.symm (hgood w (List.mem_cons_of_mem _ (List.mem_cons_of_mem _ hw))) (hat w hw)
  have hk' : (Cond.classLink own ik cls).before args s' = true := vx_ot_at hW0 hvm.symm (hgood _ List.mem_cons_self) hk
  have hini' : (Cond.initialized cls).before args s' = true := vx_ot_at hW0 hvm.symm (hgood _ (List.mem_cons_of_mem _ List.mem_cons_self)) hini
  have hU' : vx_Zq Bundle.tN "UNASSIGNED_STACK" Bundle.steD A s' s'.heap := by rw [hhp]; exact vx_Zq.moved hW0.alike (hU.kept hS.2.1)
  have hN' : vx_Zq Bundle.tN "SUPPRESSED_SENTINEL" Bundle.listD A s' s'.heap := by rw [hhp]; exact vx_Zq.moved hW0.alike (hN.kept hS.2.1)
  have h : ∀ w ∈ tOw own ic cls ix rx Y0 names, w.before args s' = true := vx_own hat' (vx_isRefq hU'.1) (vx_isRefq hN'.1) hU'.2.word hN'.2.word
  have hown' : s'.vm.findClass own = some m.cls := by rw [hvm]; exact hown
  have hins : (Cond.instantiable cls 6).before args s' = true := h _ (by simp [tOw])
  obtain ⟨vm₁, cX, kX, hfX, hkX, -, -, X₁, st1⟩ := Y.newCold hexec (own := own) (C := cls) (index := ik) (n := 6) hown' hk' hins hini'
    (g := F0 m pc ls rest) rfl (by rw [hb]; exact d0) (Nat.le_refl _) (Nat.le_refl _)
  generalize hT1 : (T.setVm vm₁).pushCell { cls := cX, slots := kX.instanceTypes.map defaultValue, vm := .none } = T1 at X₁ st1
  have hcat : (Value.ref T.heap.size).category = 1 := rfl
  have hcellA : T1.heap[T.heap.size]? = some (freshCell cX kX) := by rw [← hT1]; exact State.heap_pushCell_size _ _
  have d3' : decode c.code (pc + 3) = .ok (.dup, 1) := by rw [hb]; exact d3
  have d4' : decode c.code (pc + 4) = .ok (.ldc_w is, 3) := by rw [hb]; exact d4
  have hstr' : vk_R own is text sa s' := vk_R.warm hW0 hstr
  obtain ⟨U, hsteps, hrun, hend, hW, hsame, ce, hce, hO, hO2⟩ := tx_ctor X₁ hexec htr (own := own) (cls := cls) (Y0 := Y0) (names := names) (ic := ic) x0 x1 x2 x5 hown' hcls hY0 hnames h (fun x hx => nomatch hx) hfX hkX hcellA (by rw [hhp, hT]; exact Nat.le_refl _) (msg := .ref sa) rfl
    (g := { method := m, pc := pc + 7, locals := ls, stack := .ref sa :: .ref T.heap.size :: .ref T.heap.size :: rest, locked := none }) rfl hsize rfl rfl (rest := rest) rfl
    (by rw [hb]; exact d7) (by rw [hb]; exact d10) hout hRframes (by simp only [List.map_cons, List.sum_cons, hcat]; omega) hlocks
  obtain ⟨f1, f2⟩ := vx_frame hsame
  rw [hhp] at f1 f2
  have hWs : s.WarmedH U.vm := State.WarmedH.trans hW0 hW
  have hcl : s.vm.findClass cls = some ce.cls := by
    have h9 := hfX
    rw [hvm] at h9
    rw [hO]; exact h9
  have hall : s.sameButNew ({ U with vm := s.vm } : State) locs mc ms := by
    subst hA
    obtain ⟨e1, e2⟩ := hsame
    rw [State.setFrames_setFrames] at e1
    have h2 : (T.setVm s.vm).sameButNew ({ U with vm := s.vm } : State) [] (0 + 1) (0 + 6) := ⟨e1, e2⟩
    have h3 := X.same.trans h2
    rw [List.append_nil] at h3
    exact h3.mono hc hs
  refine ⟨U, ?_, .threw T.heap.size, hrun, hend, Or.inr ⟨T.heap.size, rfl, cls, ce, locs, hx U hWs.alike f1 (fun q hq => f2 q hq (fun z hz => nomatch hz)), hce, hO2, hcl, hWs, hall, hf⟩⟩
  refine st1 _ ?_
  show Steps p.tables e below (T1.setTop { method := m, pc := pc + 3, locals := ls, stack := .ref T.heap.size :: rest, locked := none }) _
  jvm_step X₁.here [X₁.here.top, hexec, d3', Value.category]
  exact X₁.ldcStringW hexec (own := own) (text := text) (index := is) (a := sa) hown' hstr'.1 hstr'.2
    (g := { method := m, pc := pc + 4, locals := ls, stack := .ref T.heap.size :: .ref T.heap.size :: rest, locked := none }) rfl d4' _ hsteps
end TCY
/-! The class's two methods that throw: contracts that return or throw. -/
def tNS : String := "java/util/NoSuchElementException"
/-- the code of the constructor of that class that takes a text: its own entry for the one above is 13 -/
def tRX : ByteArray := ⟨#[0x2a, 0x2b, 0xb7, 0x00, 0x0d, 0xb1]⟩
def tAt : List Cond := (tOw RX9 267 tNS 13 tRX "java/lang/RuntimeException" ["java/lang/Exception"]).filter vx_no
def tNW : List Cond := [.castable tNS tNS, .declares (Bundle.initS "java/lang/RuntimeException"), .declares (Bundle.initS "java/lang/Exception"), .declares (Bundle.initS "java/lang/Throwable")]
theorem tns_in : ∀ w ∈ tAt.filter goodWord, w ∈ sm_BW := fun w hw => List.mem_filter.mpr ⟨((goodIn_of (big := lw_tbl) (tAt.filter goodWord) (by decide +kernel)) w hw).1, (List.mem_filter.mp hw).2⟩
theorem tns_no : ∀ w ∈ tAt.filter (fun w => !goodWord w), w ∈ tNW := by decide +kernel
theorem tns_ot : ∀ w ∈ Cond.classLink RX9 263 tNS :: Cond.initialized tNS :: tAt, vx_ot w = true := by decide +kernel
theorem tns_cl : Cond.classLink RX9 263 tNS ∈ sm_BW ∧ Cond.initialized tNS ∈ sm_BW := ⟨sm_b4 213 rfl rfl, sm_b1 18 rfl rfl⟩
/-- what a throw needs of the world -/
def sm_thr (A : Nat → Prop) (U : State) : Prop :=
  vx_Zq Bundle.tN "UNASSIGNED_STACK" Bundle.steD A U U.heap ∧ vx_Zq Bundle.tN "SUPPRESSED_SENTINEL" Bundle.listD A U U.heap ∧ (∀ w ∈ tNW, va_Nw w U) ∧
  ∃ a1 a2 a3 a4 : Nat, vk_R RX9 265 "no such claim" a1 U ∧ vk_R RX9 270 "nothing of that number is told of a claim" a2 U ∧ vk_R RX9 278 "no such thing" a3 U ∧ vk_R RX9 307 "nothing of that number is told of a thing" a4 U
section TNS
variable {p : Program} {l : Launch} {e : Env} {R : Room} {s : State} {m : MethodId} {args : Array Value} {below : List Frame} {meth : Method} {c : Code} {H : Heap} {locs : List Loc} {cells slots : Nat}
variable {free : Addr → Prop} {ls : Array Slot} {rest : List Value} {Qc : Array Value → State → Outcome → State → Prop} {XC : String → State → State → Prop}
/-- a throw of the class -/
theorem x9_throw {cc : ByteArray} {pc : Nat} (hexec : p.tables.exec = Jvm.exec) (hb : c.code = cc) (hl : l.stackTraces = false) {text : String} {is mc ms sa : Nat} {A : Nat → Prop}
    (hown : s.vm.findClass RX9 = some m.cls) (hk : (Cond.classLink RX9 263 tNS).before args s = true) (hini : (Cond.initialized tNS).before args s = true) (hstr : vk_R RX9 is text sa s) (hat : ∀ w ∈ tAt, w.before args s = true)
    (hU : vx_Zq Bundle.tN "UNASSIGNED_STACK" Bundle.steD A s s.heap) (hN : vx_Zq Bundle.tN "SUPPRESSED_SENTINEL" Bundle.listD A s s.heap) (hS : va_S A s.heap H locs) (hsize : ls.size = c.maxLocals)
    (d0 : decode cc pc = .ok (.new 263, 3)) (d3 : decode cc (pc + 3) = .ok (.dup, 1)) (d4 : decode cc (pc + 4) = .ok (.ldc_w is, 3)) (d7 : decode cc (pc + 7) = .ok (.invokespecial 267, 3)) (d10 : decode cc (pc + 10) = .ok (.athrow, 1))
    (hout : ∀ x ∈ c.exceptionTable.toList, covers x (pc + 10) = false) (hRframes : 5 < R.frames) (hRlocals : (rest.map fun v => v.category).sum + 82 ≤ R.locals) (hRcells : cells + 1 ≤ R.cells) (hRslots : slots + 6 ≤ R.slots) (hlocks : meth.locks = false)
    (hx : ∀ t : State, s.vm.Alike t.vm → H.size ≤ t.heap.size → (∀ q : Nat, q < H.size → t.heap[q]? = H[q]?) → XC tNS s t)
    (hf : ∀ z ∈ locs, free z.base) (hc : cells + 1 ≤ mc) (hs : slots + 6 ≤ ms) :
    W p l e R s m args below meth c H locs cells slots (vx_MQ below Qc XC args s mc ms free) (F0 m pc ls rest) :=
  tx_throw (Y0 := "java/lang/RuntimeException") (names := ["java/lang/Exception"]) (ix := 13) (rx := tRX) hexec hb hl (by decide +kernel) (by decide +kernel) (by decide +kernel) (by decide +kernel) hown (by decide +kernel) (by decide +kernel) (by decide +kernel) hk hini hstr hat tns_ot hU hN hS hsize d0 d3 d4 d7 d10 hout hRframes hRlocals hRcells hRslots hlocks hx hf hc hs
end TNS
def x9_rm : Room := { frames := 10, cells := 1, slots := 6, locals := 400 }
def x9_W (D : va_G) (ad : Nat → Nat) (cA : Nat → ClassId) (sz : Nat) (g : sm_G) (U : State) : Prop := sm_world lay D ad cA sz g U ∧ sm_thr (va_A (sm_pic lay ad cA g) sz) U
/-- what it gives, or none -/
def x9_Q (D : va_G) (ad : Nat → Nat) (cA : Nat → ClassId) (sz : Nat) (g : sm_G) (r : Option Int32) : Array Value → State → Outcome → State → Prop := sm_post lay D ad cA sz g (fun v u => u = g ∧ ∃ x, r = some x ∧ v = some (.int x))
def x9_X (D : va_G) (ad : Nat → Nat) (cA : Nat → ClassId) (sz : Nat) (g : sm_G) (r : Option Int32) : String → State → State → Prop := vx_X (fun _ : Unit => r = none) (fun E _ t => E = tNS ∧ va_P D vwCl (sm_pic lay ad cA g) t.heap) (va_A (sm_pic lay ad cA g) sz)
/-- a place that throws -/
def x9_site (cc : ByteArray) (q : Nat × Nat) : Prop := decode cc q.1 = .ok (.new 263, 3) ∧ decode cc (q.1 + 3) = .ok (.dup, 1) ∧ decode cc (q.1 + 4) = .ok (.ldc_w q.2, 3) ∧ decode cc (q.1 + 7) = .ok (.invokespecial 267, 3) ∧ decode cc (q.1 + 10) = .ok (.athrow, 1) ∧ (q.2 = 265 ∨ q.2 = 270 ∨ q.2 = 278 ∨ q.2 = 307)
set_option maxHeartbeats 4000000 in
theorem x9_met {l : Launch} (hl : l.stackTraces = false) {y : sm_M} (hy : sm_mok y) (hown : y.1.cls = RX9) (hret : y.2.2.2 = some .int) (hL : y.2.2.1 = 3) (L : List (Nat × sm_SP)) (hcs : ∀ q ∈ L, sm_spok l lay sm_mt 9 q.1 q.2)
    (D : va_G) (ad : Nat → Nat) (cA : Nat → ClassId) (sz : Nat) (g : sm_G) (k w : Int32) (r : Option Int32) (ps : List (Nat × Nat)) (hps : ∀ q ∈ ps, x9_site y.2.1 q)
    (hb : ∀ (K : Option Value → sm_G → Prop) (J : Nat → sm_Lo → List Value → sm_G → Prop) (S : Nat → Nat → sm_Lo → List Value → sm_G → Prop), sm_walk lay (sm_nd TX9_ y.2.1 3 []) (sm_cl L) none 0 K J S → (∀ pc ls st g, S 0 pc ls st g = J pc ls st g) → (∀ x, r = some x → K (some (.int x)) g) → (r = none → ∀ q ∈ ps, J q.1 [some (.ref 0), some (.int k), some (.int w)] [] g) → J 0 [some (.ref 0), some (.int k), some (.int w)] [] g) :
    vx_Met l y.1 (Cond.code y.1 y.2.1 y.2.2.1 y.2.2.2 :: sm_BW) x9_rm (va_Pc (([.ref 0, .int k, .int w] : List Value).map (sm_tr ad)) (x9_W D ad cA sz g)) (x9_Q D ad cA sz g r) (x9_X D ad cA sz g r) 1 6 (va_A (sm_pic lay ad cA g) sz) := by
  refine vx_ofW (cc := y.2.1) (maxL := y.2.2.1) (ret := y.2.2.2) hy.2.2.1 rfl ?_
  intro p e s m args below meth c s₁ B hml hno hv
  obtain ⟨rfl, ⟨hsz, hP, hK, hD0, hN⟩, hU, hU2, hC, a1, a2, a3, a4, v1, v2, v3, v4⟩ := hv
  have hts := atoms_spec (ws := Cond.code y.1 y.2.1 y.2.2.1 y.2.2.2 :: sm_BW) B.pre
  have hbw : ∀ w' ∈ sm_BW, w'.before (([.ref 0, .int k, .int w] : List Value).map (sm_tr ad)).toArray s = true := fun w' hw => hts w' (List.mem_cons_of_mem _ hw)
  have hown' : s.vm.findClass RX9 = some m.cls := by rw [← hown]; exact findClass_of_methodNamed B.named
  have hlocks := B.notSynchronized
  subst hsz
  have C0 : sm_ctx p s m (([.ref 0, .int k, .int w] : List Value).map (sm_tr ad)).toArray c D ad cA (va_A (sm_pic lay ad cA g) s.heap.size) s.heap lay TX9_.1 y.2.1 none :=
    ⟨B.exec, B.bytes, hown', hbw, hK, fun g' => sm_pic_D hD0.self g', fun q hq => by cases hq⟩
  have hA : ∀ q, s.heap.size ≤ q → va_A (sm_pic lay ad cA g) s.heap.size q := fun q h => Or.inr h
  have hx := B.exec
  have hbb := B.bytes
  have hr := B.returns
  have hretok : sm_retok p l e (headSpec (Cond.code y.1 y.2.1 y.2.2.1 y.2.2.2 :: sm_BW) x9_rm).room s m (([.ref 0, .int k, .int w] : List Value).map (sm_tr ad)).toArray below meth c (vx_MQ below (x9_Q D ad cA s.heap.size g r) (x9_X D ad cA s.heap.size g r) (([.ref 0, .int k, .int w] : List Value).map (sm_tr ad)).toArray s 1 6 (va_A (sm_pic lay ad cA g) s.heap.size)) D ad cA (va_A (sm_pic lay ad cA g) s.heap.size) s.heap lay 0 0 y.2.1 0 (fun v u => u = g ∧ ∃ x, r = some x ∧ v = some (.int x)) := by
    intro pc a H locs u hPu hSu
    refine ⟨fun x hdec hz hKx => ?_, fun x hdec h2 hKx => ?_, fun x hdec h3 hKx => ?_, fun hdec h4 hKx => ?_⟩
    · refine vx_ret (W.widen (k := 1) (n := 6) (Nat.zero_le _) (Nat.zero_le _) ?_)
      exact W.iret hx hbb (hr.trans hret) (fun t ht _ => ⟨⟨some (.int x), u, rfl, hKx, by rw [ht]; exact hPu⟩, hSu.F ht⟩) hSu.2.2 hdec
    · cases h2
    · cases h3
    · cases h4
  have hwalk := sm_walks (T := TX9_) (bc := y.2.1) (hd := []) (nL := 3) (xs := none) (mt := sm_mt) (cs := sm_cl L) (rk := 0) (d := 9) C0 (hml.trans hL) hA hN v_cok v_lok v_ka v_tok_X9 (sm_spok_cl hcs) ⟨Nat.le_of_ble_eq_true rfl, Nat.le_of_ble_eq_true rfl, Nat.zero_le _, Nat.zero_le _⟩ hretok
  have hthr : r = none → ∀ q ∈ ps, sm_J p l e (headSpec (Cond.code y.1 y.2.1 y.2.2.1 y.2.2.2 :: sm_BW) x9_rm).room s m (([.ref 0, .int k, .int w] : List Value).map (sm_tr ad)).toArray below meth c (vx_MQ below (x9_Q D ad cA s.heap.size g r) (x9_X D ad cA s.heap.size g r) (([.ref 0, .int k, .int w] : List Value).map (sm_tr ad)).toArray s 1 6 (va_A (sm_pic lay ad cA g) s.heap.size)) D ad cA (va_A (sm_pic lay ad cA g) s.heap.size) s.heap lay 3 0 0 q.1 [some (.ref 0), some (.int k), some (.int w)] [] g := by
    intro hr9 q hq a H locs hlv hPH hSH
    obtain ⟨d0, d3, d4, d7, d10, ht⟩ := hps q hq
    obtain ⟨sa, tx, hstr⟩ : ∃ sa tx, vk_R RX9 q.2 tx sa s := by
      rcases ht with ht | ht | ht | ht <;> rw [ht]
      · exact ⟨_, _, v1⟩
      · exact ⟨_, _, v2⟩
      · exact ⟨_, _, v3⟩
      · exact ⟨_, _, v4⟩
    refine x9_throw (text := tx) (is := q.2) (sa := sa) (A := va_A (sm_pic lay ad cA g) s.heap.size) hx hbb hl hown' (hbw _ tns_cl.1) (hbw _ tns_cl.2) hstr
      (vx_hat (fun w' hw => hbw w' (tns_in w' hw)) tns_no (fun w' hw => va_Nw.use (by
        rcases List.mem_cons.mp hw with rfl | hw
        · rfl
        · rcases List.mem_cons.mp hw with rfl | hw
          · rfl
          · rcases List.mem_cons.mp hw with rfl | hw
            · rfl
            · rcases List.mem_cons.mp hw with rfl | hw
              · rfl
              · exact absurd hw List.not_mem_nil) (hC w' hw))) hU hU2 hSH (by rw [hml, hL]; exact hlv.2.1) d0 d3 d4 d7 d10 (fun x hx => (hno x hx).elim) (Nat.le_of_ble_eq_true rfl) (Nat.le_of_ble_eq_true rfl) (Nat.le_of_ble_eq_true rfl) (Nat.le_of_ble_eq_true rfl) hlocks ?_ hSH.2.2 (Nat.le_of_ble_eq_true rfl) (Nat.le_of_ble_eq_true rfl)
    intro t hal hsz hke
    exact ⟨(), hr9, ⟨rfl, hPH.kept (fun k x hx => hke x.1 ((hPH k x hx).lt))⟩, Nat.le_trans hSH.1 hsz, fun q h1 h2 => (hke q (Nat.lt_of_lt_of_le h1 hSH.1)).trans (hSH.2.1 q h1 h2)⟩
  have hJ := hb _ _ _ hwalk (fun _ _ _ _ => rfl) (fun x hx9 => ⟨rfl, x, hx9, rfl⟩) hthr
  rw [lg_entry_eq, hL]
  refine hJ _ s.heap [] ?_ hP va_S.rf
  exact sm_entry (as := [.ref 0, .int k, .int w]) (Nat.le_refl 3) (fun v hv x => by
    rcases List.mem_cons.mp hv with rfl | hv
    · exact fun h => by cases h
    · rcases List.mem_cons.mp hv with rfl | hv
      · exact fun h => by cases h
      · rcases List.mem_cons.mp hv with rfl | hv
        · exact fun h => by cases h
        · exact absurd hv List.not_mem_nil)

theorem mok_X9_claimed : sm_mok (yX9_claimed, cX9_claimed, 3, (some .int)) := ⟨sm_b4 211 rfl rfl, sm_b1 1 rfl rfl, by decide +kernel, by decide +kernel, by decide +kernel, by decide⟩
theorem x9s_claimed : ∀ q ∈ [(11, 265), (75, 270)], x9_site cX9_claimed q := by
  intro q hq
  rcases List.mem_cons.mp hq with rfl | hq
  · exact ⟨by decide +kernel, by decide +kernel, by decide +kernel, by decide +kernel, by decide +kernel, by decide⟩
  · rcases List.mem_cons.mp hq with rfl | hq
    · exact ⟨by decide +kernel, by decide +kernel, by decide +kernel, by decide +kernel, by decide +kernel, by decide⟩
    · exact absurd hq List.not_mem_nil
/-- what it answers, or none -/
noncomputable def claimedR (g : sm_G) (k w : Int32) : Option Int32 := if dc (okC g k ∧ 0 ≤ w.toInt ∧ w.toInt ≤ 2) = true then some (clmA g (tn k) w) else none
theorem met_claimed {l : Launch} (hl : l.stackTraces = false) (D : va_G) (ad : Nat → Nat) (cA : Nat → ClassId) (sz : Nat) (g : sm_G) (k w : Int32) (hi : iv g) :
    vx_Met l yX9_claimed (Cond.code yX9_claimed cX9_claimed 3 (some .int) :: sm_BW) x9_rm (va_Pc (([.ref 0, .int k, .int w] : List Value).map (sm_tr ad)) (x9_W D ad cA sz g)) (x9_Q D ad cA sz g (claimedR g k w)) (x9_X D ad cA sz g (claimedR g k w)) 1 6 (va_A (sm_pic lay ad cA g) sz) := by
  refine x9_met (y := (yX9_claimed, cX9_claimed, 3, some .int)) hl mok_X9_claimed rfl rfl rfl [(28, sp_X2_has), (31, sp_X2_stateOf), (32, sp_X2_reportOf), (33, sp_X2_thingOf)] (List.forall_mem_cons.mpr ⟨sm_spok_up (Nat.le_of_ble_eq_true rfl) (ok_X2_has l), List.forall_mem_cons.mpr ⟨sm_spok_up (Nat.le_of_ble_eq_true rfl) (ok_X2_stateOf l), List.forall_mem_cons.mpr ⟨sm_spok_up (Nat.le_of_ble_eq_true rfl) (ok_X2_reportOf l), List.forall_mem_cons.mpr ⟨sm_spok_up (Nat.le_of_ble_eq_true rfl) (ok_X2_thingOf l), fun _ h => absurd h List.not_mem_nil⟩⟩⟩⟩) D ad cA sz g k w _ [(11, 265), (75, 270)] x9s_claimed ?_
  intro K J S hW hS0 hK hJ
  have hW : sm_walk lay NX9_claimed (sm_cl [(28, sp_X2_has), (31, sp_X2_stateOf), (32, sp_X2_reportOf), (33, sp_X2_thingOf)]) none 0 K J S := hW
  refine wk_claimed K J S hW hS0 g k w hi ?_ ?_ ?_
  · intro a b
    exact hK _ (if_pos (dc_t.mpr ⟨a, b.1, b.2⟩))
  · intro a
    exact hJ (if_neg (fun b => a (dc_t.mp b).1)) _ List.mem_cons_self
  · intro a b
    exact hJ (if_neg (fun d => b (dc_t.mp d).2)) _ (List.mem_cons_of_mem _ List.mem_cons_self)

theorem mok_X9_place : sm_mok (yX9_place, cX9_place, 3, (some .int)) := ⟨sm_b5 46 rfl rfl, sm_b1 1 rfl rfl, by decide +kernel, by decide +kernel, by decide +kernel, by decide⟩
theorem x9s_place : ∀ q ∈ [(11, 278), (166, 307)], x9_site cX9_place q := by
  intro q hq
  rcases List.mem_cons.mp hq with rfl | hq
  · exact ⟨by decide +kernel, by decide +kernel, by decide +kernel, by decide +kernel, by decide +kernel, by decide⟩
  · rcases List.mem_cons.mp hq with rfl | hq
    · exact ⟨by decide +kernel, by decide +kernel, by decide +kernel, by decide +kernel, by decide +kernel, by decide⟩
    · exact absurd hq List.not_mem_nil
/-- what it answers, or none -/
noncomputable def placeR (g : sm_G) (k w : Int32) : Option Int32 := if dc (okT g k ∧ 0 ≤ w.toInt ∧ w.toInt ≤ 9) = true then some (plcA g (tn k) w) else none
theorem met_place {l : Launch} (hl : l.stackTraces = false) (D : va_G) (ad : Nat → Nat) (cA : Nat → ClassId) (sz : Nat) (g : sm_G) (k w : Int32) (hi : iv g) :
    vx_Met l yX9_place (Cond.code yX9_place cX9_place 3 (some .int) :: sm_BW) x9_rm (va_Pc (([.ref 0, .int k, .int w] : List Value).map (sm_tr ad)) (x9_W D ad cA sz g)) (x9_Q D ad cA sz g (placeR g k w)) (x9_X D ad cA sz g (placeR g k w)) 1 6 (va_A (sm_pic lay ad cA g) sz) := by
  refine x9_met (y := (yX9_place, cX9_place, 3, some .int)) hl mok_X9_place rfl rfl rfl [(91, sp_X8_has), (95, sp_X8_whereOf), (99, sp_X8_bagOf), (100, sp_X8_ageOf), (96, sp_X8_kindOf), (97, sp_X8_finderOf), (101, sp_X8_takerOf), (102, sp_X8_outDayOf), (103, sp_X8_whyOf), (108, sp_X8_countInside), (34, sp_X2_standingOn)] (List.forall_mem_cons.mpr ⟨sm_spok_up (Nat.le_of_ble_eq_true rfl) (ok_X8_has l), List.forall_mem_cons.mpr ⟨sm_spok_up (Nat.le_of_ble_eq_true rfl) (ok_X8_whereOf l), List.forall_mem_cons.mpr ⟨sm_spok_up (Nat.le_of_ble_eq_true rfl) (ok_X8_bagOf l), List.forall_mem_cons.mpr ⟨sm_spok_up (Nat.le_of_ble_eq_true rfl) (ok_X8_ageOf l), List.forall_mem_cons.mpr ⟨sm_spok_up (Nat.le_of_ble_eq_true rfl) (ok_X8_kindOf l), List.forall_mem_cons.mpr ⟨sm_spok_up (Nat.le_of_ble_eq_true rfl) (ok_X8_finderOf l), List.forall_mem_cons.mpr ⟨sm_spok_up (Nat.le_of_ble_eq_true rfl) (ok_X8_takerOf l), List.forall_mem_cons.mpr ⟨sm_spok_up (Nat.le_of_ble_eq_true rfl) (ok_X8_outDayOf l), List.forall_mem_cons.mpr ⟨sm_spok_up (Nat.le_of_ble_eq_true rfl) (ok_X8_whyOf l), List.forall_mem_cons.mpr ⟨sm_spok_up (Nat.le_of_ble_eq_true rfl) (ok_X8_countInside l), List.forall_mem_cons.mpr ⟨sm_spok_up (Nat.le_of_ble_eq_true rfl) (ok_X2_standingOn l), fun _ h => absurd h List.not_mem_nil⟩⟩⟩⟩⟩⟩⟩⟩⟩⟩⟩) D ad cA sz g k w _ [(11, 278), (166, 307)] x9s_place ?_
  intro K J S hW hS0 hK hJ
  have hW : sm_walk lay NX9_place (sm_cl [(91, sp_X8_has), (95, sp_X8_whereOf), (99, sp_X8_bagOf), (100, sp_X8_ageOf), (96, sp_X8_kindOf), (97, sp_X8_finderOf), (101, sp_X8_takerOf), (102, sp_X8_outDayOf), (103, sp_X8_whyOf), (108, sp_X8_countInside), (34, sp_X2_standingOn)]) none 0 K J S := hW
  refine wk_place K J S hW hS0 g k w hi ?_ ?_ ?_
  · intro a b
    exact hK _ (if_pos (dc_t.mpr ⟨a, b.1, b.2⟩))
  · intro a
    exact hJ (if_neg (fun b => a (dc_t.mp b).1)) _ List.mem_cons_self
  · intro a b
    exact hJ (if_neg (fun d => b (dc_t.mp d).2)) _ (List.mem_cons_of_mem _ List.mem_cons_self)

