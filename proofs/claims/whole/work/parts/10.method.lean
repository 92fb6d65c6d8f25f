/-! A METHOD'S BODY GIVES ITS CONTRACT, where its callees have theirs. -/
def sp_max : sm_SP := fun as g K => match as with
  | [.int x, .int y] => (x.toInt < y.toInt → K (some (.int y)) g) ∧ (¬ x.toInt < y.toInt → K (some (.int x)) g)
  | _ => False
def sp_min : sm_SP := fun as g K => match as with
  | [.int x, .int y] => (y.toInt < x.toInt → K (some (.int y)) g) ∧ (¬ y.toInt < x.toInt → K (some (.int x)) g)
  | _ => False
/-- a method's entry in the table: itself, whether it is static, how many arguments, the receiver too -/
abbrev sm_R : Type := sm_M × Bool × Nat
def sm_ent (own : String) (raw : Instr) (mid n : Nat) (y : sm_R) : Prop :=
  (mid = sm_mmax ∧ n = 2 ∧ ∃ ix, raw = .invokestatic ix ∧ Cond.methodLink own ix Lib.Math.max.name ∈ sm_BW ∧ Cond.static Lib.Math.max.name ∈ sm_BW ∧ Cond.initialized "java/lang/Math" ∈ sm_BW ∧ Cond.code Lib.Math.max.name Lib.Math.max.code 2 (some .int) ∈ sm_BW) ∨
  (mid = sm_mmin ∧ n = 2 ∧ ∃ ix, raw = .invokestatic ix ∧ Cond.methodLink own ix Lib.Math.min.name ∈ sm_BW ∧ Cond.static Lib.Math.min.name ∈ sm_BW ∧ Cond.initialized "java/lang/Math" ∈ sm_BW ∧ Cond.code Lib.Math.min.name Lib.Math.min.code 2 (some .int) ∈ sm_BW) ∨
  (mid ≠ sm_mmax ∧ mid ≠ sm_mmin ∧ n = y.2.2 ∧ ∃ kind, sm_site own raw y.1 n y.2.1 kind)
def sm_spok (l : Launch) (lay : List ((Nat × List Nat) ⊕ (Nat × Nat))) (mt : Nat → sm_R) (d mid : Nat) (sp : sm_SP) : Prop :=
  (∀ as g K, ¬ sp as g K) ∨ (mid = sm_mmax ∧ sp = sp_max) ∨ (mid = sm_mmin ∧ sp = sp_min) ∨ (mid ≠ sm_mmax ∧ mid ≠ sm_mmin ∧ sm_ok l lay (mt mid).1 (mt mid).2.2 (mt mid).2.1 d sp)
theorem sm_spok_cl {l : Launch} {lay : List ((Nat × List Nat) ⊕ (Nat × Nat))} {mt : Nat → sm_R} {d : Nat} : ∀ {L : List (Nat × sm_SP)}, (∀ q ∈ L, sm_spok l lay mt d q.1 q.2) → ∀ mid, sm_spok l lay mt d mid (sm_cl L mid) := by
  intro L
  induction L with
  | nil => intro _ mid; exact Or.inl (fun as g K h => h)
  | cons q L ih =>
    intro h mid
    obtain ⟨m, sp⟩ := q
    by_cases hm : mid = m
    · subst hm
      have : sm_cl ((mid, sp) :: L) mid = sp := by simp [sm_cl]
      rw [this]; exact h (mid, sp) List.mem_cons_self
    · have : sm_cl ((m, sp) :: L) mid = sm_cl L mid := by simp [sm_cl, hm]
      rw [this]; exact ih (fun q hq => h q (List.mem_cons_of_mem _ hq)) mid
theorem sm_spok_up {l : Launch} {lay : List ((Nat × List Nat) ⊕ (Nat × Nat))} {mt : Nat → sm_R} {d d' mid : Nat} {sp : sm_SP} (hd : d ≤ d') (h : sm_spok l lay mt d mid sp) : sm_spok l lay mt d' mid sp := by
  rcases h with h | h | h | ⟨h1, h2, h3, h4⟩
  · exact Or.inl h
  · exact Or.inr (Or.inl h)
  · exact Or.inr (Or.inr (Or.inl h))
  · exact Or.inr (Or.inr (Or.inr ⟨h1, h2, h3, fun d'' hd'' => h4 d'' (Nat.le_trans hd hd'')⟩))
/-- a class's tables hold -/
def sm_tok (mt : Nat → sm_R) (T : sm_T) : Prop :=
  (∀ ix v, T.2.1.lookup ix = some v → sm_fok T.1 ix v) ∧ (∀ ix v, T.2.2.2.2.lookup ix = some v → Cond.constant T.1 ix (nI v) ∈ sm_BW) ∧ (∀ ix v, T.2.2.2.1.lookup ix = some v → Cond.constantLong T.1 ix (if 0 ≤ v then lN v.toNat else Int64.ofInt v) ∈ sm_BW) ∧
  (∀ ix mid n, T.2.2.1.lookup ix = some (mid, n) → ix < 100000 → sm_ent T.1 (.invokevirtual ix) mid n (mt mid)) ∧ (∀ ix mid n, T.2.2.1.lookup (ix + 100000) = some (mid, n) → sm_ent T.1 (.invokestatic ix) mid n (mt mid))
section SMC
variable {p : Program} {l : Launch} {e : Env} {R : Room} {s : State} {m : MethodId} {args : Array Value} {below : List Frame} {meth : Method} {c : Code} {Q : State → Prop}
variable {D : va_G} {ad : Nat → Nat} {cA : Nat → ClassId} {A : Nat → Prop} {H0 : Heap} {lay : List ((Nat × List Nat) ⊕ (Nat × Nat))} {nL cells slots : Nat}
theorem sm_catsum (r : List Value) : ((r.map (sm_tr ad)).map fun v => v.category).sum ≤ 2 * r.length := by
  induction r with
  | nil => simp
  | cons v r ih =>
    have : (sm_tr ad v).category ≤ 2 := by cases v <;> simp [sm_tr, Value.category]
    simp only [List.map_cons, List.sum_cons, List.length_cons]
    omega
theorem sm_callent {own : String} {bc : ByteArray} {xs : Option (Nat × (Nat → Int32))} (C0 : sm_ctx p s m args c D ad cA A H0 lay own bc xs) (hml : c.maxLocals = nL) (hA : ∀ q, H0.size ≤ q → A q) (hN : sm_nest s) {raw : Instr} {mid n d : Nat} {mt : Nat → sm_R} {sp : sm_SP} (hs : sm_ent own raw mid n (mt mid)) (hok : sm_spok l lay mt d mid sp)
    (hR : d + 1 ≤ R.frames ∧ 40 * d + 40 ≤ R.locals ∧ cells ≤ R.cells ∧ slots ≤ R.slots) : sm_callok p l e R s m args below meth c Q D ad cA A H0 lay nL cells slots bc raw n sp := by
  rcases hok with hok | ⟨rfl, rfl⟩ | ⟨rfl, rfl⟩ | ⟨hn1, hn2, hok⟩
  · intro pc ls as r g K _ _ _ h; exact (hok _ _ _ h).elim
  · rcases hs with ⟨-, rfl, ix, rfl, h1, h2, h3, h4⟩ | ⟨h, -⟩ | ⟨h, -⟩
    · intro pc ls as r g K hdec hlen hr hsp hk a H locs hl hP hS
      obtain ⟨hx, hb, hown, hts, hK, hD, hX⟩ := id C0
      match as, hsp with
      | [.int x, .int y], hsp =>
        have hc := sm_catsum (ad := ad) r
        refine va_mmax (rest := r.map (sm_tr ad)) hx hb (by rw [hml]; exact hl.2.1.symm) hown (hts _ h1) (hts _ h2) (hts _ h3) (hts _ h4) (by omega) (by omega) hR.2.2.1 hR.2.2.2 hdec ?_
        split
        · rename_i hlt; exact hk _ _ (hsp.1 (Int32.lt_iff_toInt_lt.mp hlt)) a H locs hl hP hS
        · rename_i hlt; exact hk _ _ (hsp.2 (fun h => hlt (Int32.lt_iff_toInt_lt.mpr h))) a H locs hl hP hS
    · exact absurd h (by decide)
    · exact absurd rfl h
  · rcases hs with ⟨h, -⟩ | ⟨-, rfl, ix, rfl, h1, h2, h3, h4⟩ | ⟨-, h, -⟩
    · exact absurd h (by decide)
    · intro pc ls as r g K hdec hlen hr hsp hk a H locs hl hP hS
      obtain ⟨hx, hb, hown, hts, hK, hD, hX⟩ := id C0
      match as, hsp with
      | [.int x, .int y], hsp =>
        have hc := sm_catsum (ad := ad) r
        refine va_mmin (rest := r.map (sm_tr ad)) hx hb (by rw [hml]; exact hl.2.1.symm) hown (hts _ h1) (hts _ h2) (hts _ h3) (hts _ h4) (by omega) (by omega) hR.2.2.1 hR.2.2.2 hdec ?_
        split
        · rename_i hlt; exact hk _ _ (hsp.1 (Int32.lt_iff_toInt_lt.mp hlt)) a H locs hl hP hS
        · rename_i hlt; exact hk _ _ (hsp.2 (fun h => hlt (Int32.lt_iff_toInt_lt.mpr h))) a H locs hl hP hS
    · exact absurd rfl h
  · rcases hs with ⟨h, -⟩ | ⟨h, -⟩ | ⟨-, -, rfl, kind, hs⟩
    · exact absurd h hn1
    · exact absurd h hn2
    · exact sm_call C0 hml hA hN hs hok hR
/-- J of a method's frame can be read backwards along walks -/
theorem sm_walks {T : sm_T} {bc : ByteArray} {hd : List Nat} {xs : Option (Nat × (Nat → Int32))} {mt : Nat → sm_R} {cs : Nat → sm_SP} {rk d : Nat} {K : Option Value → sm_G → Prop}
    (C0 : sm_ctx p s m args c D ad cA A H0 lay T.1 bc xs) (hml : c.maxLocals = nL) (hA : ∀ q, H0.size ≤ q → A q) (hN : sm_nest s) (hcok : sm_cok) (hlok : sm_lok lay) (hKa : ∀ (pl ty n : Nat), lay[pl]? = some (.inr (ty, n)) → ty = 1 ∨ ty = 2 ∨ ty = 3) (hT : sm_tok mt T)
    (hcs : ∀ mid, sm_spok l lay mt d mid (cs mid)) (hR : d + 1 ≤ R.frames ∧ 40 * d + 40 ≤ R.locals ∧ cells ≤ R.cells ∧ slots ≤ R.slots)
    (hret : sm_retok p l e R s m args below meth c Q D ad cA A H0 lay cells slots bc rk K) :
    sm_walk lay (sm_nd T bc nL hd) cs xs rk K (sm_J p l e R s m args below meth c Q D ad cA A H0 lay nL cells slots) (sm_sx lay (sm_nd T bc nL hd) cs xs rk K (sm_J p l e R s m args below meth c Q D ad cA A H0 lay nL cells slots)) := by
  have step : ∀ (pc nx : Nat) (i : Instr) (b : Bool) ls st g k, sm_nd T bc nL hd pc = some (i, nx, b) → sm_stp lay cs xs rk K i nx ls st g k → (∀ pc ls st g, k pc ls st g → sm_J p l e R s m args below meth c Q D ad cA A H0 lay nL cells slots pc ls st g) → sm_J p l e R s m args below meth c Q D ad cA A H0 lay nL cells slots pc ls st g := by
    intro pc nx i b ls st g k hn h hk
    unfold sm_nd at hn
    split at hn
    · rename_i raw n hdec
      obtain ⟨j, hj, he⟩ := Option.map_eq_some_iff.mp hn
      cases he
      exact sm_step C0 hcok hlok hKa hT.1 hT.2.1 hT.2.2.1 (fun ix mid n hl h1 => sm_callent C0 hml hA hN (hT.2.2.2.1 ix mid n hl h1) (hcs mid) hR) (fun ix mid n hl => sm_callent C0 hml hA hN (hT.2.2.2.2 ix mid n hl) (hcs mid) hR) hret hdec hj h hk
    · cases hn
  have sx : ∀ n pc ls st g, sm_sx lay (sm_nd T bc nL hd) cs xs rk K (sm_J p l e R s m args below meth c Q D ad cA A H0 lay nL cells slots) n pc ls st g → sm_J p l e R s m args below meth c Q D ad cA A H0 lay nL cells slots pc ls st g := by
    intro n
    induction n with
    | zero => intro pc ls st g h; exact h
    | succ n ih =>
      intro pc ls st g h
      simp only [sm_sx, sm_go] at h
      split at h
      · rename_i i nx hn; exact step _ _ _ _ _ _ _ _ hn h ih
      · exact h
      · exact h.elim
  refine ⟨fun n pc ls st g => rfl, fun n pc ls st g h => ?_⟩
  unfold sm_g1 at h
  split at h
  · rename_i i nx b hn; exact step _ _ _ _ _ _ _ _ hn h (sx n)
  · exact h.elim
end SMC
/-- what a method returns, by number -/
def sm_rk (rk : Nat) (ret : Option FieldType) : Prop := (rk = 0 ∧ ret = some .int) ∨ (rk = 1 ∧ ret = some .boolean) ∨ (rk = 2 ∧ ret = some .long) ∨ (rk = 3 ∧ ∃ n, ret = some (.object n)) ∨ (rk = 4 ∧ ret = none)
theorem sm_arg_slots : ∀ (vs : List Value), (∀ v ∈ vs, ∀ x, v ≠ .double x) → ∀ ad, (lg_sl (vs.map (sm_tr ad))).length = (sm_arg vs).length := by
  intro vs
  induction vs with
  | nil => intro _ ad; rfl
  | cons v vs ih =>
    intro h ad
    have ih' := ih (fun v hv => h v (List.mem_cons_of_mem _ hv)) ad
    have e : lg_sl ((v :: vs).map (sm_tr ad)) = (if (sm_tr ad v).category = 2 then [.val (sm_tr ad v), .second] else [.val (sm_tr ad v)]) ++ lg_sl (vs.map (sm_tr ad)) := rfl
    rw [e, List.length_append, ih']
    cases v with
    | double x => exact absurd rfl (h _ List.mem_cons_self x)
    | long x => simp [sm_arg, sm_tr, Value.category]; omega
    | int x => simp [sm_arg, sm_tr, Value.category]; omega
    | float x => simp [sm_arg, sm_tr, Value.category]; omega
    | null => simp [sm_arg, sm_tr, Value.category]; omega
    | ref x => simp [sm_arg, sm_tr, Value.category]; omega
    | retAddr x => simp [sm_arg, sm_tr, Value.category]; omega
theorem sm_arg_nd2 (vs : List Value) (h : ∀ v ∈ vs, ∀ x, v ≠ .double x) : ∀ o ∈ sm_arg vs, ∀ v, o = some v → ∀ x, v ≠ .double x := by
  induction vs with
  | nil => intro o ho; cases ho
  | cons v vs ih =>
    have ih' := ih (fun v hv => h v (List.mem_cons_of_mem _ hv))
    intro o ho w hw
    have hv := h v List.mem_cons_self
    cases v with
    | long x =>
      simp only [sm_arg, List.mem_cons] at ho
      rcases ho with rfl | rfl | ho
      · obtain rfl := Option.some.inj hw; exact hv
      · cases hw
      · exact ih' o ho w hw
    | int x =>
      simp only [sm_arg, List.mem_cons] at ho
      rcases ho with rfl | ho
      · obtain rfl := Option.some.inj hw; exact hv
      · exact ih' o ho w hw
    | float x =>
      simp only [sm_arg, List.mem_cons] at ho
      rcases ho with rfl | ho
      · obtain rfl := Option.some.inj hw; exact hv
      · exact ih' o ho w hw
    | double x =>
      simp only [sm_arg, List.mem_cons] at ho
      rcases ho with rfl | ho
      · obtain rfl := Option.some.inj hw; exact hv
      · exact ih' o ho w hw
    | ref x =>
      simp only [sm_arg, List.mem_cons] at ho
      rcases ho with rfl | ho
      · obtain rfl := Option.some.inj hw; exact hv
      · exact ih' o ho w hw
    | retAddr x =>
      simp only [sm_arg, List.mem_cons] at ho
      rcases ho with rfl | ho
      · obtain rfl := Option.some.inj hw; exact hv
      · exact ih' o ho w hw
    | null =>
      simp only [sm_arg, List.mem_cons] at ho
      rcases ho with rfl | ho
      · obtain rfl := Option.some.inj hw; exact hv
      · exact ih' o ho w hw
theorem sm_arg_sub (ad : Nat → Nat) : ∀ (vs : List Value) (i : Nat), (∀ v ∈ vs, ∀ x, v ≠ .double x) → ∀ q ∈ sm_as ad i (sm_arg vs), q ∈ lv_args i (vs.map (sm_tr ad)) := by
  intro vs
  induction vs with
  | nil => intro i _ q hq; exact hq
  | cons v vs ih =>
    intro i h q hq
    have ih' := fun i => ih i (fun v hv => h v (List.mem_cons_of_mem _ hv))
    have hv := h v List.mem_cons_self
    cases v with
    | double x => exact absurd rfl (hv x)
    | long x =>
      rcases List.mem_cons.mp (show q ∈ (i, sm_tr ad (.long x)) :: sm_as ad (i + 2) (sm_arg vs) from hq) with rfl | hq
      · exact List.mem_cons_self
      · exact List.mem_cons_of_mem _ (ih' (i + 2) q hq)
    | int x =>
      rcases List.mem_cons.mp (show q ∈ (i, sm_tr ad (.int x)) :: sm_as ad (i + 1) (sm_arg vs) from hq) with rfl | hq
      · exact List.mem_cons_self
      · exact List.mem_cons_of_mem _ (ih' (i + 1) q hq)
    | float x =>
      rcases List.mem_cons.mp (show q ∈ (i, sm_tr ad (.float x)) :: sm_as ad (i + 1) (sm_arg vs) from hq) with rfl | hq
      · exact List.mem_cons_self
      · exact List.mem_cons_of_mem _ (ih' (i + 1) q hq)
    | null =>
      rcases List.mem_cons.mp (show q ∈ (i, sm_tr ad .null) :: sm_as ad (i + 1) (sm_arg vs) from hq) with rfl | hq
      · exact List.mem_cons_self
      · exact List.mem_cons_of_mem _ (ih' (i + 1) q hq)
    | ref x =>
      rcases List.mem_cons.mp (show q ∈ (i, sm_tr ad (.ref x)) :: sm_as ad (i + 1) (sm_arg vs) from hq) with rfl | hq
      · exact List.mem_cons_self
      · exact List.mem_cons_of_mem _ (ih' (i + 1) q hq)
    | retAddr x =>
      rcases List.mem_cons.mp (show q ∈ (i, sm_tr ad (.retAddr x)) :: sm_as ad (i + 1) (sm_arg vs) from hq) with rfl | hq
      · exact List.mem_cons_self
      · exact List.mem_cons_of_mem _ (ih' (i + 1) q hq)
theorem sm_pad_get (n : Nat) (l : sm_Lo) (k : Nat) (v : Value) (h : (sm_pad n l)[k]? = some (some v)) : l[k]? = some (some v) := by
  unfold sm_pad at h
  rw [List.getElem?_append] at h
  split at h
  · exact h
  · rw [List.getElem?_replicate] at h; split at h <;> cases h
theorem sm_entry {ad : Nat → Nat} {nL : Nat} {as : List Value} (h1 : (sm_arg as).length ≤ nL) (h2 : ∀ v ∈ as, ∀ x, v ≠ .double x) :
    sm_lv ad ((lg_sl (as.map (sm_tr ad)) ++ List.replicate (nL - (lg_sl (as.map (sm_tr ad))).length) Slot.unset).toArray) nL (sm_pad nL (sm_arg as)) := by
  have h := lv_entry (as.map (sm_tr ad)) (n := nL) (by rw [sm_arg_slots as h2]; exact h1)
  refine ⟨⟨by simp [sm_pad]; omega, fun k v hk x => ?_⟩, lv_less h (fun q hq => ?_)⟩
  · have := sm_pad_get _ _ _ _ hk
    exact sm_arg_nd2 as h2 _ (List.mem_of_getElem? this) v rfl x
  · obtain ⟨k, v, hk, rfl⟩ := (sm_as_mem ad _ 0 q).mp hq
    exact sm_arg_sub ad as 0 h2 _ ((sm_as_mem ad _ 0 _).mpr ⟨k, v, sm_pad_get _ _ _ _ hk, rfl⟩)
set_option maxHeartbeats 1000000 in
theorem sm_method {l : Launch} {lay : List ((Nat × List Nat) ⊕ (Nat × Nat))} {T : sm_T} {hd : List Nat} {mt : Nat → sm_R} {L : List (Nat × sm_SP)} {rk d n : Nat} {st : Bool} {y : sm_M} {sp : sm_SP}
    (hcok : sm_cok) (hlok : sm_lok lay) (hKa : ∀ (pl ty n : Nat), lay[pl]? = some (.inr (ty, n)) → ty = 1 ∨ ty = 2 ∨ ty = 3) (hT : sm_tok mt T)
    (hy : sm_mok y) (hown : y.1.cls = T.1) (hrk : sm_rk rk y.2.2.2) (hwf : sm_wf lay y n st sp) (hcs : ∀ q ∈ L, sm_spok l lay mt d q.1 q.2) (hbody : sm_body lay (sm_nd T y.2.1 y.2.2.1 hd) y.2.2.1 rk (sm_cl L) sp) : sm_ok l lay y n st (d + 1) sp := by
  refine ⟨hwf, fun d' hd' D ad cA sz as g K hsp => ?_⟩
  obtain ⟨hw1, hw2, hw3, hw4⟩ := hwf as g K hsp
  refine Met.ofW (cc := y.2.1) (maxL := y.2.2.1) (ret := y.2.2.2) hy.2.2.1 rfl ?_
  intro p e s m args below meth c s₁ B hml hv
  obtain ⟨rfl, hsz, hP, hK, hD0, hN⟩ := hv
  have hts := atoms_spec (ws := Cond.code y.1 y.2.1 y.2.2.1 y.2.2.2 :: sm_BW) B.pre
  have hown' : s.vm.findClass T.1 = some m.cls := by rw [← hown]; exact findClass_of_methodNamed B.named
  have hlocks := B.notSynchronized
  subst hsz
  have C0 : sm_ctx p s m (as.map (sm_tr ad)).toArray c D ad cA (va_A (sm_pic lay ad cA g) s.heap.size) s.heap lay T.1 y.2.1 none :=
    ⟨B.exec, B.bytes, hown', fun w hw => hts w (List.mem_cons_of_mem _ hw), hK, fun g' => sm_pic_D hD0.self g', fun q hq => by cases hq⟩
  have hA : ∀ q, s.heap.size ≤ q → va_A (sm_pic lay ad cA g) s.heap.size q := fun q h => Or.inr h
  have hx := B.exec
  have hb := B.bytes
  have hr := B.returns
  have hret : sm_retok p l e (headSpec (Cond.code y.1 y.2.1 y.2.2.1 y.2.2.2 :: sm_BW) (sm_rm d')).room s m (as.map (sm_tr ad)).toArray below meth c (MQ below (sm_post lay D ad cA s.heap.size g K) (as.map (sm_tr ad)).toArray s 0 0 (va_A (sm_pic lay ad cA g) s.heap.size)) D ad cA (va_A (sm_pic lay ad cA g) s.heap.size) s.heap lay 0 0 y.2.1 rk K := by
    intro pc a H locs u hPu hSu
    refine ⟨fun x hdec hz hKx => ?_, fun x hdec h2 hKx => ?_, fun x hdec h3 hKx => ?_, fun hdec h4 hKx => ?_⟩
    · have hq : ∀ t : State, t.heap = H → s.WarmedH t.vm → sm_post lay D ad cA s.heap.size g K (as.map (sm_tr ad)).toArray s (.returned (some (.int x))) t := fun t ht _ => ⟨⟨some (.int x), u, rfl, hKx, by rw [ht]; exact hPu⟩, hSu.F ht⟩
      rcases hrk with ⟨rfl, hr0⟩ | ⟨rfl, hr0⟩ | ⟨rfl, hr0⟩ | ⟨rfl, hr0⟩ | ⟨rfl, hr0⟩
      · exact W.iret hx hb (hr.trans hr0) hq hSu.2.2 hdec
      · exact W.zret hx hb (hr.trans hr0) (sm_narrow_z (sm_zr_1 hz)) hq hSu.2.2 hdec
      · rcases hz with h | h
        · cases h
        · cases h.1
      · rcases hz with h | h
        · cases h
        · cases h.1
      · rcases hz with h | h
        · cases h
        · cases h.1
    · rcases hrk with ⟨rfl, hr0⟩ | ⟨rfl, hr0⟩ | ⟨rfl, hr0⟩ | ⟨rfl, hr0⟩ | ⟨rfl, hr0⟩
      · cases h2
      · cases h2
      · exact W.lret hx hb (hr.trans hr0) (fun t ht _ => ⟨⟨some (.long x), u, rfl, hKx, by rw [ht]; exact hPu⟩, hSu.F ht⟩) hSu.2.2 hdec
      · cases h2
      · cases h2
    · rcases hrk with ⟨rfl, hr0⟩ | ⟨rfl, hr0⟩ | ⟨rfl, hr0⟩ | ⟨rfl, nm, hr0⟩ | ⟨rfl, hr0⟩
      · cases h3
      · cases h3
      · cases h3
      · exact W.aret hx hb (hr.trans hr0) (Or.inl ⟨nm, rfl⟩) (Or.inr ⟨_, rfl⟩) (fun t ht _ => ⟨⟨some (.ref x), u, rfl, hKx, by rw [ht]; exact hPu⟩, hSu.F ht⟩) hSu.2.2 hdec
      · cases h3
    · rcases hrk with ⟨rfl, hr0⟩ | ⟨rfl, hr0⟩ | ⟨rfl, hr0⟩ | ⟨rfl, hr0⟩ | ⟨rfl, hr0⟩
      · cases h4
      · cases h4
      · cases h4
      · cases h4
      · exact W.vret hx hb (hr.trans hr0) (fun t ht _ => ⟨⟨none, u, rfl, hKx, by rw [ht]; exact hPu⟩, hSu.F ht⟩) hSu.2.2 hdec
  have hwalk := sm_walks (hd := hd) (nL := y.2.2.1) (cs := sm_cl L) (d := d) C0 hml hA hN hcok hlok hKa hT (sm_spok_cl hcs) ⟨hd', by show 40 * d + 40 ≤ 40 * d'; omega, Nat.zero_le _, Nat.zero_le _⟩ hret
  have hJ := hbody K _ _ hwalk as g hsp
  rw [lg_entry_eq]
  exact hJ _ s.heap [] (sm_entry hw1 hw2) hP va_S.rf
