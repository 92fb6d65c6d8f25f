/-! ONE STEP: the transformer of the small machine over the kit's W. -/
theorem sm_nI_ofInt {v : Int} (h : 0 ≤ v) : Int32.ofInt v = nI v.toNat := by
  obtain ⟨n, rfl⟩ := Int.eq_ofNat_of_zero_le h
  exact Int32.ofInt_eq_ofNat
theorem sm_sI_ofInt {v : Int} (h : ¬ 0 ≤ v) : Int32.ofInt v = sI (-v - 1).toNat := by
  unfold sI; congr 1; omega
theorem sm_i8 {n : Int} (h1 : -128 ≤ n) (h2 : n < 128) : (Int8.ofInt n).toInt32 = Int32.ofInt n := by
  rw [← Int32.ofInt_int8ToInt, Int8.toInt_ofInt_of_le (by omega) (by omega)]
theorem sm_i16 {n : Int} (h1 : -32768 ≤ n) (h2 : n < 32768) : (Int16.ofInt n).toInt32 = Int32.ofInt n := by
  rw [← Int32.ofInt_int16ToInt, Int16.toInt_ofInt_of_le (by omega) (by omega)]
theorem sm_in_vp {i : Int32} {n : Nat} (h : sm_in i n) : vp_in i n := vp_in_iff.mpr h
theorem sm_nar_z {x : Int32} (h : x = nI 0 ∨ x = nI 1) : vp_nar .boolean x = x := by rcases h with rfl | rfl <;> rfl
theorem sm_narrow_z {x : Int32} (h : x = nI 0 ∨ x = nI 1) : narrow .boolean (.int x) = .int x := by rcases h with rfl | rfl <;> rfl
/-- the words that all methods share: those of the tables that are good -/
def sm_BW : List Cond := lw_tbl.filter goodWord
theorem sm_bw {w : Cond} (n : Nat) (h : lw_tbl[n]? = some w) (hg : goodWord w = true) : w ∈ sm_BW := List.mem_filter.mpr ⟨List.mem_of_getElem? h, hg⟩
/-- what a class's field entry means -/
def sm_fok (own : String) (ix c : Nat) : Prop := ∃ (C : String) (T : u_T) (N : Nat), vwCl[c / 100]? = some (C, T, N) ∧ c % 100 < N ∧ (T (c % 100)).1 = C ∧ Cond.fieldLink own ix C (T (c % 100)).2.1 (T (c % 100)).2.2.1 ∈ sm_BW
/-- what is known of each class -/
def sm_cok : Prop := ∀ (ci : Nat) (C : String) (T : u_T) (N : Nat), vwCl[ci]? = some (C, T, N) → (∀ w ∈ u_ws C T N, w ∈ sm_BW) ∧ (∃ ty0 : Nat → FieldType, ∀ k, k < N → parseFieldDescriptor (T k).2.2.1 = some (ty0 k)) ∧ ∀ a, a < N → ∀ b, b < N → a ≠ b → (T a).2.1 ≠ (T b).2.1
/-- the layout agrees with the classes: a field that it calls an int is one, and not final -/
def sm_lok (lay : List ((Nat × List Nat) ⊕ (Nat × Nat))) : Prop := ∀ (p ci k : Nat) (ds : List Nat), lay[p]? = some (.inl (ci, ds)) → ds[k]? = some 1 → ∃ (C : String) (T : u_T) (N : Nat), vwCl[ci]? = some (C, T, N) ∧ (T k).2.2.1 = "I" ∧ (T k).2.2.2 = false
section SMS
variable {p : Program} {l : Launch} {e : Env} {R : Room} {s : State} {m : MethodId} {args : Array Value} {below : List Frame} {meth : Method} {c : Code} {Q : State → Prop}
variable {D : va_G} {ad : Nat → Nat} {cA : Nat → ClassId} {A : Nat → Prop} {H0 : Heap} {lay : List ((Nat × List Nat) ⊕ (Nat × Nat))} {nL cells slots : Nat}
/-- wherever the cells hold g and the locals ls, the method comes from pc, with st on its stack, to Q -/
def sm_J (p : Program) (l : Launch) (e : Env) (R : Room) (s : State) (m : MethodId) (args : Array Value) (below : List Frame) (meth : Method) (c : Code) (Q : State → Prop) (D : va_G) (ad : Nat → Nat) (cA : Nat → ClassId) (A : Nat → Prop) (H0 : Heap) (lay : List ((Nat × List Nat) ⊕ (Nat × Nat))) (nL cells slots : Nat) (pc : Nat) (ls : sm_Lo) (st : List Value) (g : sm_G) : Prop :=
  ∀ (a : Array Slot) (H : Heap) (locs : List Loc), sm_lv ad a nL ls → va_P D vwCl (sm_pic lay ad cA g) H → va_S A H0 H locs → W p l e R s m args below meth c H locs cells slots Q (F0 m pc a (st.map (sm_tr ad)))
/-- what is fixed while a method runs -/
def sm_ctx (p : Program) (s : State) (m : MethodId) (args : Array Value) (c : Code) (D : va_G) (ad : Nat → Nat) (cA : Nat → ClassId) (A : Nat → Prop) (H0 : Heap) (lay : List ((Nat × List Nat) ⊕ (Nat × Nat))) (own : String) (bc : ByteArray) (xs : Option (Nat × (Nat → Int32))) : Prop :=
  p.tables.exec = Jvm.exec ∧ c.code = bc ∧ s.vm.findClass own = some m.cls ∧ (∀ w ∈ sm_BW, w.before args s = true) ∧ va_K D vwCl (sm_tys cA) s ∧ (∀ g, va_D A (sm_pic lay ad cA g)) ∧
  ∀ q, xs = some q → va_X (ad 1000) q.1 q.2 s H0 ∧ ad 1000 < H0.size ∧ ¬ A (ad 1000)
/-- what a call means, by its entry -/
def sm_callok (p : Program) (l : Launch) (e : Env) (R : Room) (s : State) (m : MethodId) (args : Array Value) (below : List Frame) (meth : Method) (c : Code) (Q : State → Prop) (D : va_G) (ad : Nat → Nat) (cA : Nat → ClassId) (A : Nat → Prop) (H0 : Heap) (lay : List ((Nat × List Nat) ⊕ (Nat × Nat))) (nL cells slots : Nat) (bc : ByteArray) (raw : Instr) (n : Nat) (sp : sm_SP) : Prop :=
  ∀ (pc : Nat) (ls : sm_Lo) (as r : List Value) (g : sm_G) (K : Option Value → sm_G → Prop), decode bc pc = .ok (raw, 3) → as.length = n → r.length ≤ 4 → sp as g K →
    (∀ v g', K v g' → sm_J p l e R s m args below meth c Q D ad cA A H0 lay nL cells slots (pc + 3) ls (sm_psh v r) g') → sm_J p l e R s m args below meth c Q D ad cA A H0 lay nL cells slots pc ls (as.reverse ++ r) g
/-- what a return means -/
def sm_retok (p : Program) (l : Launch) (e : Env) (R : Room) (s : State) (m : MethodId) (args : Array Value) (below : List Frame) (meth : Method) (c : Code) (Q : State → Prop) (D : va_G) (ad : Nat → Nat) (cA : Nat → ClassId) (A : Nat → Prop) (H0 : Heap) (lay : List ((Nat × List Nat) ⊕ (Nat × Nat))) (cells slots : Nat) (bc : ByteArray) (rk : Nat) (K : Option Value → sm_G → Prop) : Prop :=
  ∀ (pc : Nat) (a : Array Slot) (H : Heap) (locs : List Loc) (g : sm_G), va_P D vwCl (sm_pic lay ad cA g) H → va_S A H0 H locs →
    (∀ x, decode bc pc = .ok (.ireturn, 1) → sm_zr rk x → K (some (.int x)) g → W p l e R s m args below meth c H locs cells slots Q (F0 m pc a [.int x])) ∧
    (∀ x, decode bc pc = .ok (.lreturn, 1) → rk = 2 → K (some (.long x)) g → W p l e R s m args below meth c H locs cells slots Q (F0 m pc a [.long x])) ∧
    (∀ x, decode bc pc = .ok (.areturn, 1) → rk = 3 → K (some (.ref x)) g → W p l e R s m args below meth c H locs cells slots Q (F0 m pc a [.ref (ad x)])) ∧
    (decode bc pc = .ok (.return_, 1) → rk = 4 → K none g → W p l e R s m args below meth c H locs cells slots Q (F0 m pc a []))
theorem sm_lv_st1 {ls : sm_Lo} {k : Nat} {v : Value} {a : Array Slot} (hl : (ls.length = nL ∧ sm_nd2 ls)) (hv : ∀ x, v ≠ .double x) (h : lv_has a nL ((k, sm_tr ad v) :: (sm_as ad 0 ls).filter (fun q => !(q.1 == k) && !(q.1 + 1 == k && q.2.category == 2)))) : sm_lv ad a nL (sm_st1 ls k v) :=
  ⟨⟨by rw [sm_st1_len]; exact hl.1, sm_st1_nd2 hl.2 hv⟩, lv_less h (sm_st1_sub hl.2)⟩
theorem sm_lv_st2 {ls : sm_Lo} {k : Nat} {v : Value} {a : Array Slot} (hl : (ls.length = nL ∧ sm_nd2 ls)) (hv : ∀ x, v ≠ .double x) (h : lv_has a nL ((k, sm_tr ad v) :: (sm_as ad 0 ls).filter (fun q => !(q.1 == k) && (!(q.1 == k + 1) && !(q.1 + 1 == k && q.2.category == 2))))) : sm_lv ad a nL (sm_st2 ls k v) :=
  ⟨⟨by rw [sm_st2_len]; exact hl.1, sm_st2_nd2 hl.2 hv⟩, lv_less h (sm_st2_sub hl.2)⟩
theorem sm_as_at {ls : sm_Lo} {k : Nat} {v : Value} (h : ls[k]? = some (some v)) : ∃ i : Nat, (sm_as ad 0 ls)[i]? = some (k, sm_tr ad v) := by
  have : (k, sm_tr ad v) ∈ sm_as ad 0 ls := (sm_as_mem ad ls 0 _).mpr ⟨k, v, h, by simp⟩
  exact List.getElem?_of_mem this
theorem sm_getf {own : String} {bc : ByteArray} {xs : Option (Nat × (Nat → Int32))} (C0 : sm_ctx p s m args c D ad cA A H0 lay own bc xs) (hc : sm_cok) {ix k pl pc : Nat} (hf : sm_fok own ix k) {g : sm_G} {H : Heap} {locs : List Loc} {a : Array Slot} {r : List Value} (hP : va_P D vwCl (sm_pic lay ad cA g) H) {f : Value → Prop} (h : sm_fg (sm_fd lay pl k) (rS g pl k) f)
    (hdec : decode bc pc = .ok (.getfield ix, 3)) (kk : ∀ v, f v → W p l e R s m args below meth c H locs cells slots Q (F0 m (pc + 3) a ((v :: r).map (sm_tr ad)))) : W p l e R s m args below meth c H locs cells slots Q (F0 m pc a ((.ref pl :: r).map (sm_tr ad))) := by
  obtain ⟨hx, hb, hown, hts, hK, hD, hX⟩ := C0
  obtain ⟨C, T, N, h1, h2, h3, h4⟩ := hf
  obtain ⟨hin, -, -⟩ := hc _ C T N h1
  have hne : sm_fd lay pl k ≠ 0 := by
    rcases sm_fg_spec h with ⟨h, -⟩ | ⟨q, h, -⟩ <;> omega
  obtain ⟨ci, ds, hl, hci, hd⟩ := sm_fd_spec rfl hne
  subst hci
  have hk : k / 100 * 100 + k % 100 = k := by omega
  have hv : (sm_fs ad g pl (k / 100) ds)[k % 100]? = some (sm_fv ad g pl k (sm_fd lay pl k)) := by
    rw [sm_fs_at hd, hk]
  refine va_get hx hb hts hin hown hK hP pl (sm_pic_at hl) h1 (k % 100) h2 (hts _ h4) (fun x hx => by rw [← h3]; exact hx) hv hdec ?_
  rcases sm_fg_spec h with ⟨h1, h2⟩ | ⟨q, h1, h2⟩
  · have := kk _ h2
    rw [sm_fv, if_pos h1]; exact this
  · have := kk _ h2
    rw [sm_fv, if_neg (by omega), h1]; exact this
theorem sm_putf {own : String} {bc : ByteArray} {xs : Option (Nat × (Nat → Int32))} (C0 : sm_ctx p s m args c D ad cA A H0 lay own bc xs) (hc : sm_cok) (hlo : sm_lok lay) {ix k pl pc : Nat} (hf : sm_fok own ix k) {g : sm_G} {H : Heap} {locs : List Loc} {a : Array Slot} {r : List Value} {x : Int32} (hP : va_P D vwCl (sm_pic lay ad cA g) H) (hS : va_S A H0 H locs) (h : sm_fd lay pl k = 1)
    (hdec : decode bc pc = .ok (.putfield ix, 3)) (kk : ∀ H locs, va_P D vwCl (sm_pic lay ad cA (gS g pl k x)) H → va_S A H0 H locs → W p l e R s m args below meth c H locs cells slots Q (F0 m (pc + 3) a (r.map (sm_tr ad)))) : W p l e R s m args below meth c H locs cells slots Q (F0 m pc a ((.int x :: .ref pl :: r).map (sm_tr ad))) := by
  obtain ⟨hx, hb, hown, hts, hK, hD, hX⟩ := C0
  obtain ⟨C, T, N, h1, h2, h3, h4⟩ := hf
  obtain ⟨hin, ⟨ty0, hty⟩, hnm⟩ := hc _ C T N h1
  obtain ⟨ci, ds, hl, hci, hd⟩ := sm_fd_spec h (by decide)
  subst hci
  obtain ⟨C', T', N', e1, e2, e3⟩ := hlo _ _ _ _ hl hd
  rw [h1] at e1; cases e1
  have hk : k / 100 * 100 + k % 100 = k := by omega
  have hlen : k % 100 < (sm_fs ad g pl (k / 100) ds).length := by
    simpa [sm_fs] using (List.getElem?_eq_some_iff.mp hd).1
  refine va_put (v := .int x) (ty := .int) hx hb hts hin ty0 hty hnm hown hK hP (hD g) hS pl (sm_pic_at hl) h1 (k % 100) h2 (hts _ h4) (fun x hx => by rw [← h3]; exact hx) e3 (by rw [e2]; rfl) rfl rfl hlen hdec (fun H1 locs1 hP1 _ hS1 => ?_)
  have he := sm_pic_set (lay := lay) (ad := ad) (cA := cA) (g := g) (p := pl) (sm_e_gS (cA := cA) (v := x) hl hd)
  rw [hk] at he
  rw [he] at hP1
  exact kk H1 locs1 hP1 hS1
end SMS
