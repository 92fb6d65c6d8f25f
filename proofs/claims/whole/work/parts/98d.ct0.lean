/-! THE CONSTRUCTORS, row by row (written by program, gen/mk_ctor.py). -/
theorem w_arrI : Cond.arrayClass .int ∈ sm_BW := sm_b1 49 rfl rfl
theorem w_arrZ : Cond.arrayClass .boolean ∈ sm_BW := sm_b1 83 rfl rfl
theorem w_arrJ : Cond.arrayClass .long ∈ sm_BW := sm_b1 50 rfl rfl
def ct_ctx (p : Program) (s : State) (m : MethodId) (args : Array Value) (meth : Method) (c : Code) (D : va_G) (cA : Nat → ClassId) (A : Nat → Prop) (own : String) (bc : ByteArray) : Prop :=
  p.tables.exec = Jvm.exec ∧ c.code = bc ∧ s.vm.findClass own = some m.cls ∧ (∀ w ∈ sm_BW, w.before args s = true) ∧ va_K D vwCl (sm_tys cA) s ∧ (∀ q, s.heap.size ≤ q → A q) ∧ meth.name = "<init>"
/-- what a constructor's start is, and its end -/
def ct_Pre (D : va_G) (cA : Nat → ClassId) (sz h0 ci : Nat) (fs : List Value) (U : State) : Prop := U.heap.size = sz ∧ va_P D vwCl [(h0, .inr (ci, fs))] U.heap ∧ va_K D vwCl (sm_tys cA) U ∧ va_D (fun _ => True) [(h0, .inr (ci, fs))] ∧ sm_nest U
theorem ct_blind {D : va_G} {cA : Nat → ClassId} {sz h0 ci : Nat} {fs av : List Value} : FrameBlind (va_Pc av (ct_Pre D cA sz h0 ci fs)) := fun a U f mk h => by
  obtain ⟨q0, h1, h2, h3, h4, h5⟩ := h
  exact ⟨q0, h1, h2, va_K.moved (u := U) (U := U.calling f mk a) (Vm.Alike.refl U.vm) h3, h4, va_Nw.same (u := U) rfl rfl h5.1, va_Nw.same (u := U) rfl rfl h5.2.1, va_Nw.same (u := U) rfl rfl h5.2.2⟩
section CTS
variable {p : Program} {l : Launch} {e : Env} {R : Room} {s : State} {m : MethodId} {args : Array Value} {below : List Frame} {meth : Method} {c : Code} {Q : State → Prop}
variable {D : va_G} {cA : Nat → ClassId} {A : Nat → Prop} {own : String} {bc : ByteArray} {cells slots pc : Nat} {H : Heap} {locs : List Loc} {ws : va_W} {ls : Array Slot} {rest : List Value}
theorem ct_I (C0 : ct_ctx p s m args meth c D cA A own bc) {n : Int32} {N : Nat} (hn : ¬ n < 0) (hN : n.toNatClampNeg = N) (hbytes : N * componentBytes .int ≤ 536870912) (hcells : cells + 1 ≤ R.cells) (hslots : slots + N ≤ R.slots) (hP : va_P D vwCl ws H) (hD : va_D A ws) (hS : va_S A s.heap H locs) (hdg : decode bc pc = .ok (.newarray .int, 2))
    (kk : ∀ (q : Nat) (H1 : Heap), va_P D vwCl (ws ++ [(q, .inl (cA 1, N, .inl (fun _ => 0)))]) H1 → va_D A (ws ++ [(q, .inl (cA 1, N, .inl (fun _ => 0)))]) → va_S A s.heap H1 locs → W p l e R s m args below meth c H1 locs (cells + 1) (slots + N) Q (F0 m (pc + 2) ls (.ref q :: rest))) : W p l e R s m args below meth c H locs cells slots Q (F0 m pc ls (.int n :: rest)) := by
  obtain ⟨hx, hb, hown, hts, hK, hA, hin⟩ := C0
  refine va_newa (atype := .int) (ty := .int) (a0 := (N, .inl (fun _ => 0))) hx hb (hts _ w_arrI) rfl hK hP hD hS hA (fun _ => rfl) hn hN hbytes hcells hslots hdg (fun q cB H1 hK1 hP1 hD1 hS1 => ?_)
  have e1 := (hK1.2 3 (cB, .int) rfl).2
  have e2 := (hK.2 0 (cA 1, .int) rfl).2
  have e : cB = cA 1 := Option.some.inj (Eq.trans (Eq.symm e1) e2)
  subst e
  exact kk q H1 hP1 hD1 hS1
theorem ct_Z (C0 : ct_ctx p s m args meth c D cA A own bc) {n : Int32} {N : Nat} (hn : ¬ n < 0) (hN : n.toNatClampNeg = N) (hbytes : N * componentBytes .boolean ≤ 536870912) (hcells : cells + 1 ≤ R.cells) (hslots : slots + N ≤ R.slots) (hP : va_P D vwCl ws H) (hD : va_D A ws) (hS : va_S A s.heap H locs) (hdg : decode bc pc = .ok (.newarray .boolean, 2))
    (kk : ∀ (q : Nat) (H1 : Heap), va_P D vwCl (ws ++ [(q, .inl (cA 2, N, .inl (fun _ => 0)))]) H1 → va_D A (ws ++ [(q, .inl (cA 2, N, .inl (fun _ => 0)))]) → va_S A s.heap H1 locs → W p l e R s m args below meth c H1 locs (cells + 1) (slots + N) Q (F0 m (pc + 2) ls (.ref q :: rest))) : W p l e R s m args below meth c H locs cells slots Q (F0 m pc ls (.int n :: rest)) := by
  obtain ⟨hx, hb, hown, hts, hK, hA, hin⟩ := C0
  refine va_newa (atype := .boolean) (ty := .boolean) (a0 := (N, .inl (fun _ => 0))) hx hb (hts _ w_arrZ) rfl hK hP hD hS hA (fun _ => rfl) hn hN hbytes hcells hslots hdg (fun q cB H1 hK1 hP1 hD1 hS1 => ?_)
  have e1 := (hK1.2 3 (cB, .boolean) rfl).2
  have e2 := (hK.2 1 (cA 2, .boolean) rfl).2
  have e : cB = cA 2 := Option.some.inj (Eq.trans (Eq.symm e1) e2)
  subst e
  exact kk q H1 hP1 hD1 hS1
theorem ct_J (C0 : ct_ctx p s m args meth c D cA A own bc) {n : Int32} {N : Nat} (hn : ¬ n < 0) (hN : n.toNatClampNeg = N) (hbytes : N * componentBytes .long ≤ 536870912) (hcells : cells + 1 ≤ R.cells) (hslots : slots + N ≤ R.slots) (hP : va_P D vwCl ws H) (hD : va_D A ws) (hS : va_S A s.heap H locs) (hdg : decode bc pc = .ok (.newarray .long, 2))
    (kk : ∀ (q : Nat) (H1 : Heap), va_P D vwCl (ws ++ [(q, .inl (cA 3, N, .inr (.inl (fun _ => 0))))]) H1 → va_D A (ws ++ [(q, .inl (cA 3, N, .inr (.inl (fun _ => 0))))]) → va_S A s.heap H1 locs → W p l e R s m args below meth c H1 locs (cells + 1) (slots + N) Q (F0 m (pc + 2) ls (.ref q :: rest))) : W p l e R s m args below meth c H locs cells slots Q (F0 m pc ls (.int n :: rest)) := by
  obtain ⟨hx, hb, hown, hts, hK, hA, hin⟩ := C0
  refine va_newa (atype := .long) (ty := .long) (a0 := (N, .inr (.inl (fun _ => 0)))) hx hb (hts _ w_arrJ) rfl hK hP hD hS hA (fun _ => rfl) hn hN hbytes hcells hslots hdg (fun q cB H1 hK1 hP1 hD1 hS1 => ?_)
  have e1 := (hK1.2 3 (cB, .long) rfl).2
  have e2 := (hK.2 2 (cA 3, .long) rfl).2
  have e : cB = cA 3 := Option.some.inj (Eq.trans (Eq.symm e1) e2)
  subst e
  exact kk q H1 hP1 hD1 hS1
theorem ct_put (C0 : ct_ctx p s m args meth c D cA A own bc) {ci N k ix : Nat} {T : u_T} {v : Value} {ty0 : Nat → FieldType} (hc : vwCl[ci]? = some (own, T, N)) (hck : (∀ w ∈ u_ws own T N, w ∈ sm_BW) ∧ (∃ ty0 : Nat → FieldType, ∀ k, k < N → parseFieldDescriptor (T k).2.2.1 = some (ty0 k)) ∧ ∀ a, a < N → ∀ b, b < N → a ≠ b → (T a).2.1 ≠ (T b).2.1) (hk : k < N) (hty : ∀ k, k < N → parseFieldDescriptor (T k).2.2.1 = some (ty0 k))
    (hlink : (Cond.fieldLink own ix own (T k).2.1 (T k).2.2.1).before args s = true) (h1 : (T k).1 = own) (hfin : (T k).2.2.2 = true) (hn : narrow (ty0 k) v = v) (hfit : fits (ty0 k) v = true) {h0 : Nat} {fs : List Value} (hP : va_P D vwCl ws H) (hD : va_D A ws) (hS : va_S A s.heap H locs) (he : ws[0]? = some (h0, .inr (ci, fs))) (hl : k < fs.length) (hdg : decode bc pc = .ok (.putfield ix, 3))
    (kk : ∀ (H1 : Heap) (locs1 : List Loc), va_P D vwCl (ws.set 0 (h0, .inr (ci, fs.set k v))) H1 → va_D A (ws.set 0 (h0, .inr (ci, fs.set k v))) → va_S A s.heap H1 locs1 → W p l e R s m args below meth c H1 locs1 cells slots Q (F0 m (pc + 3) ls rest)) : W p l e R s m args below meth c H locs cells slots Q (F0 m pc ls (v :: .ref h0 :: rest)) := by
  obtain ⟨hx, hb, hown, hts, hK, hA, hin⟩ := C0
  exact va_putF (v := v) (ty := ty0 k) hx hb hts hck.1 ty0 hty hck.2.2 hown hK hP hD hS 0 he hc k hk hlink (fun x hx => by rw [← h1]; exact hx) hfin hin h1 (hty k hk) hn hfit hl hdg kk
theorem ct_puti (C0 : ct_ctx p s m args meth c D cA A own bc) {ci N k ix : Nat} {T : u_T} {v : Value} {ty0 : Nat → FieldType} (hc : vwCl[ci]? = some (own, T, N)) (hck : (∀ w ∈ u_ws own T N, w ∈ sm_BW) ∧ (∃ ty0 : Nat → FieldType, ∀ k, k < N → parseFieldDescriptor (T k).2.2.1 = some (ty0 k)) ∧ ∀ a, a < N → ∀ b, b < N → a ≠ b → (T a).2.1 ≠ (T b).2.1) (hk : k < N) (hty : ∀ k, k < N → parseFieldDescriptor (T k).2.2.1 = some (ty0 k))
    (hlink : (Cond.fieldLink own ix own (T k).2.1 (T k).2.2.1).before args s = true) (h1 : (T k).1 = own) (hfin : (T k).2.2.2 = false) (hn : narrow (ty0 k) v = v) (hfit : fits (ty0 k) v = true) {h0 : Nat} {fs : List Value} (hP : va_P D vwCl ws H) (hD : va_D A ws) (hS : va_S A s.heap H locs) (he : ws[0]? = some (h0, .inr (ci, fs))) (hl : k < fs.length) (hdg : decode bc pc = .ok (.putfield ix, 3))
    (kk : ∀ (H1 : Heap) (locs1 : List Loc), va_P D vwCl (ws.set 0 (h0, .inr (ci, fs.set k v))) H1 → va_D A (ws.set 0 (h0, .inr (ci, fs.set k v))) → va_S A s.heap H1 locs1 → W p l e R s m args below meth c H1 locs1 cells slots Q (F0 m (pc + 3) ls rest)) : W p l e R s m args below meth c H locs cells slots Q (F0 m pc ls (v :: .ref h0 :: rest)) := by
  obtain ⟨hx, hb, hown, hts, hK, hA, hin⟩ := C0
  exact va_put (v := v) (ty := ty0 k) hx hb hts hck.1 ty0 hty hck.2.2 hown hK hP hD hS 0 he hc k hk hlink (fun x hx => by rw [← h1]; exact hx) hfin (hty k hk) hn hfit hl hdg kk
end CTS

