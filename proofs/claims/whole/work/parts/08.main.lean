/-! ONE STEP, instruction by instruction (written by program). -/
theorem sm_tsw_spec {f : Nat → Prop} : ∀ {os : List Int} {lo x : Int}, sm_tsw os lo x f → ∀ (j : Nat), x = lo + j → ∀ o, os[j]? = some o → f o.toNat := by
  intro os
  induction os with
  | nil => intro lo x _ j _ o h; cases h
  | cons a os ih =>
    intro lo x h j hj o ho
    cases j with
    | zero => simp at ho; subst ho; exact h.1 (by simpa using hj)
    | succ j => exact ih h.2 j (by omega) o (by simpa using ho)
theorem sm_lsw_spec {pc : Nat} {f : Nat → Prop} : ∀ (ps : List (Int × Int)) (d x : Int), sm_lsw (ps.map (fun o => (o.1, (pc : Int) + o.2))) (pc + d) x f → 0 ≤ (pc : Int) + d → (∀ a o, (a, o) ∈ ps → 0 ≤ (pc : Int) + o) → f ((pc : Int) + Op.lookupswitch.offset ps d x).toNat ∧ (pc : Int) + Op.lookupswitch.offset ps d x = (((pc : Int) + Op.lookupswitch.offset ps d x).toNat : Int) := by
  intro ps
  induction ps with
  | nil => intro d x h hd _; exact ⟨h, (Int.toNat_of_nonneg hd).symm⟩
  | cons q ps ih =>
    intro d x h hd hp
    obtain ⟨a, o⟩ := q
    have h1 := hp a o List.mem_cons_self
    by_cases hx : x = a
    · have e : Op.lookupswitch.offset ((a, o) :: ps) d x = o := by simp [Op.lookupswitch.offset, hx]
      rw [e]; exact ⟨h.1 hx, (Int.toNat_of_nonneg h1).symm⟩
    · have e : Op.lookupswitch.offset ((a, o) :: ps) d x = Op.lookupswitch.offset ps d x := by
        simp [Op.lookupswitch.offset, hx]
        intro h; exact absurd h.symm hx
      rw [e]; exact ih d x (h.2 hx) hd (fun a o h => hp a o (List.mem_cons_of_mem _ h))
theorem sm_zr_1 {x : Int32} (h : sm_zr 1 x) : x = nI 0 ∨ x = nI 1 := by
  rcases h with h | h
  · cases h
  · exact h.2
section SMM
variable {p : Program} {l : Launch} {e : Env} {R : Room} {s : State} {m : MethodId} {args : Array Value} {below : List Frame} {meth : Method} {c : Code} {Q : State → Prop}
variable {D : va_G} {ad : Nat → Nat} {cA : Nat → ClassId} {A : Nat → Prop} {H0 : Heap} {lay : List ((Nat × List Nat) ⊕ (Nat × Nat))} {nL cells slots : Nat}
set_option maxHeartbeats 4000000 in
theorem sm_step {own : String} {bc : ByteArray} {xs : Option (Nat × (Nat → Int32))} {fl : List (Nat × Nat)} {cl : List (Nat × Nat × Nat)} {ll : List (Nat × Int)} {il : List (Nat × Nat)} {cs : Nat → sm_SP} {rk : Nat} {K : Option Value → sm_G → Prop}
    (C0 : sm_ctx p s m args c D ad cA A H0 lay own bc xs) (hcok : sm_cok) (hlok : sm_lok lay) (hKa : ∀ (pl ty n : Nat), lay[pl]? = some (.inr (ty, n)) → ty = 1 ∨ ty = 2 ∨ ty = 3)
    (hfl : ∀ ix v, fl.lookup ix = some v → sm_fok own ix v) (hil : ∀ ix v, il.lookup ix = some v → Cond.constant own ix (nI v) ∈ sm_BW) (hll : ∀ ix v, ll.lookup ix = some v → Cond.constantLong own ix (if 0 ≤ v then lN v.toNat else Int64.ofInt v) ∈ sm_BW)
    (hcl : ∀ ix mid n, cl.lookup ix = some (mid, n) → ix < 100000 → sm_callok p l e R s m args below meth c Q D ad cA A H0 lay nL cells slots bc (.invokevirtual ix) n (cs mid)) (hcs : ∀ ix mid n, cl.lookup (ix + 100000) = some (mid, n) → sm_callok p l e R s m args below meth c Q D ad cA A H0 lay nL cells slots bc (.invokestatic ix) n (cs mid)) (hret : sm_retok p l e R s m args below meth c Q D ad cA A H0 lay cells slots bc rk K)
    {pc n : Nat} {raw i : Instr} (hdec : decode bc pc = .ok (raw, n)) (hnm : sm_nm fl cl ll il nL pc raw n = some i) {ls : sm_Lo} {st : List Value} {g : sm_G} {k : Nat → sm_Lo → List Value → sm_G → Prop} (h : sm_stp lay cs xs rk K i (pc + n) ls st g k)
    (hk : ∀ pc ls st g, k pc ls st g → sm_J p l e R s m args below meth c Q D ad cA A H0 lay nL cells slots pc ls st g) : sm_J p l e R s m args below meth c Q D ad cA A H0 lay nL cells slots pc ls st g := by
  intro a H locs hl hP hS
  obtain ⟨hx, hb, hown, hts, hK, hD, hX⟩ := id C0
  cases raw with
  | iload_n j =>
    obtain ⟨hb1, rfl⟩ := sm_ck_spec hnm
    obtain rfl : n = 1 := by simpa using hb1
    obtain ⟨x, hx1, h⟩ := sm_ldi_spec h
    exact lv_iload_n hx hb hdec rfl (sm_lv_at hl hx1) (hk _ _ _ _ h a H locs hl hP hS)
  | lload_n j =>
    obtain ⟨hb1, rfl⟩ := sm_ck_spec hnm
    obtain rfl : n = 1 := by simpa using hb1
    obtain ⟨x, hx1, h⟩ := sm_ldl_spec h
    exact lv_lload_n hx hb hdec rfl (sm_lv_at hl hx1) (hk _ _ _ _ h a H locs hl hP hS)
  | aload_n j =>
    obtain ⟨hb1, rfl⟩ := sm_ck_spec hnm
    obtain rfl : n = 1 := by simpa using hb1
    obtain ⟨x, hx1, h⟩ := sm_ldr_spec h
    exact lv_aload_n hx hb hdec rfl (sm_lv_at hl hx1) (hk _ _ _ _ h a H locs hl hP hS)
  | iload j =>
    obtain ⟨hb1, rfl⟩ := sm_ck_spec hnm
    obtain rfl : n = 2 := by simpa using hb1
    obtain ⟨x, hx1, h⟩ := sm_ldi_spec h
    exact lv_iload hx hb hdec (sm_lv_at hl hx1) (hk _ _ _ _ h a H locs hl hP hS)
  | lload j =>
    obtain ⟨hb1, rfl⟩ := sm_ck_spec hnm
    obtain rfl : n = 2 := by simpa using hb1
    obtain ⟨x, hx1, h⟩ := sm_ldl_spec h
    exact lv_lload hx hb hdec (sm_lv_at hl hx1) (hk _ _ _ _ h a H locs hl hP hS)
  | aload j =>
    obtain ⟨hb1, rfl⟩ := sm_ck_spec hnm
    obtain rfl : n = 2 := by simpa using hb1
    obtain ⟨x, hx1, h⟩ := sm_ldr_spec h
    exact lv_aload hx hb hdec (sm_lv_at hl hx1) (hk _ _ _ _ h a H locs hl hP hS)
  | istore_n j =>
    obtain ⟨hb1, rfl⟩ := sm_ck_spec hnm
    simp only [Bool.and_eq_true, beq_iff_eq, decide_eq_true_eq] at hb1
    obtain ⟨rfl, hb2⟩ := hb1
    obtain ⟨x, r, rfl, h⟩ := sm_i1_spec h
    exact lv_istore_n (lv := sm_as ad 0 ls) hx hb hdec rfl hl.2 hb2 rfl (fun ls' hl' => hk _ _ _ _ h ls' H locs (sm_lv_st1 hl.1 (fun _ h => by cases h) hl') hP hS)
  | lstore_n j =>
    obtain ⟨hb1, rfl⟩ := sm_ck_spec hnm
    simp only [Bool.and_eq_true, beq_iff_eq, decide_eq_true_eq] at hb1
    obtain ⟨rfl, hb2⟩ := hb1
    obtain ⟨x, r, rfl, h⟩ := sm_l1_spec h
    exact lv_lstore_n (lv := sm_as ad 0 ls) hx hb hdec rfl hl.2 hb2 rfl (fun ls' hl' => hk _ _ _ _ h ls' H locs (sm_lv_st2 hl.1 (fun _ h => by cases h) hl') hP hS)
  | astore_n j =>
    obtain ⟨hb1, rfl⟩ := sm_ck_spec hnm
    simp only [Bool.and_eq_true, beq_iff_eq, decide_eq_true_eq] at hb1
    obtain ⟨rfl, hb2⟩ := hb1
    obtain ⟨x, r, rfl, h⟩ := sm_r1_spec h
    exact lv_astore_n (lv := sm_as ad 0 ls) hx hb hdec rfl hl.2 hb2 rfl (fun ls' hl' => hk _ _ _ _ h ls' H locs (sm_lv_st1 hl.1 (fun _ h => by cases h) hl') hP hS)
  | istore j =>
    obtain ⟨hb1, rfl⟩ := sm_ck_spec hnm
    simp only [Bool.and_eq_true, beq_iff_eq, decide_eq_true_eq] at hb1
    obtain ⟨rfl, hb2⟩ := hb1
    obtain ⟨x, r, rfl, h⟩ := sm_i1_spec h
    exact lv_istore (lv := sm_as ad 0 ls) hx hb hdec hl.2 hb2 rfl (fun ls' hl' => hk _ _ _ _ h ls' H locs (sm_lv_st1 hl.1 (fun _ h => by cases h) hl') hP hS)
  | lstore j =>
    obtain ⟨hb1, rfl⟩ := sm_ck_spec hnm
    simp only [Bool.and_eq_true, beq_iff_eq, decide_eq_true_eq] at hb1
    obtain ⟨rfl, hb2⟩ := hb1
    obtain ⟨x, r, rfl, h⟩ := sm_l1_spec h
    exact lv_lstore (lv := sm_as ad 0 ls) hx hb hdec hl.2 hb2 rfl (fun ls' hl' => hk _ _ _ _ h ls' H locs (sm_lv_st2 hl.1 (fun _ h => by cases h) hl') hP hS)
  | astore j =>
    obtain ⟨hb1, rfl⟩ := sm_ck_spec hnm
    simp only [Bool.and_eq_true, beq_iff_eq, decide_eq_true_eq] at hb1
    obtain ⟨rfl, hb2⟩ := hb1
    obtain ⟨x, r, rfl, h⟩ := sm_r1_spec h
    exact lv_astore (lv := sm_as ad 0 ls) hx hb hdec hl.2 hb2 rfl (fun ls' hl' => hk _ _ _ _ h ls' H locs (sm_lv_st1 hl.1 (fun _ h => by cases h) hl') hP hS)
  | iconst v =>
    simp only [sm_nm, sm_cst] at hnm
    split at hnm
    · rename_i hb1
      simp only [Bool.and_eq_true, beq_iff_eq, decide_eq_true_eq] at hb1
      obtain ⟨⟨rfl, hb2⟩, hb3⟩ := hb1
      split at hnm
      · rename_i h0
        obtain rfl := Option.some.inj hnm
        have h' := hk _ _ _ _ h a H locs hl hP hS
        exact lv_iconst hx hb hdec (sm_nI_ofInt h0) h'
      · rename_i h0
        obtain rfl := Option.some.inj hnm
        have h' := hk _ _ _ _ h a H locs hl hP hS
        exact lv_iconst hx hb hdec (sm_sI_ofInt h0) h'
    · cases hnm
  | bipush v =>
    simp only [sm_nm, sm_cst] at hnm
    split at hnm
    · rename_i hb1
      simp only [Bool.and_eq_true, beq_iff_eq, decide_eq_true_eq] at hb1
      obtain ⟨⟨rfl, hb2⟩, hb3⟩ := hb1
      split at hnm
      · rename_i h0
        obtain rfl := Option.some.inj hnm
        have h' := hk _ _ _ _ h a H locs hl hP hS
        exact lv_bipush hx hb hdec ((sm_i8 hb2 hb3).trans (sm_nI_ofInt h0)) h'
      · rename_i h0
        obtain rfl := Option.some.inj hnm
        have h' := hk _ _ _ _ h a H locs hl hP hS
        exact lv_bipush hx hb hdec ((sm_i8 hb2 hb3).trans (sm_sI_ofInt h0)) h'
    · cases hnm
  | sipush v =>
    simp only [sm_nm, sm_cst] at hnm
    split at hnm
    · rename_i hb1
      simp only [Bool.and_eq_true, beq_iff_eq, decide_eq_true_eq] at hb1
      obtain ⟨⟨rfl, hb2⟩, hb3⟩ := hb1
      split at hnm
      · rename_i h0
        obtain rfl := Option.some.inj hnm
        have h' := hk _ _ _ _ h a H locs hl hP hS
        exact lv_sipush hx hb hdec ((sm_i16 hb2 hb3).trans (sm_nI_ofInt h0)) h'
      · rename_i h0
        obtain rfl := Option.some.inj hnm
        have h' := hk _ _ _ _ h a H locs hl hP hS
        exact lv_sipush hx hb hdec ((sm_i16 hb2 hb3).trans (sm_sI_ofInt h0)) h'
    · cases hnm
  | ldc_w ix =>
    simp only [sm_nm] at hnm
    split at hnm
    · rename_i h3; subst h3
      obtain ⟨v, hv, rfl⟩ := Option.map_eq_some_iff.mp hnm
      exact lv_ldcw hx hb hown (hts _ (hil ix v hv)) hdec (hk _ _ _ _ h a H locs hl hP hS)
    · cases hnm
  | ldc2_w ix =>
    simp only [sm_nm] at hnm
    split at hnm
    · rename_i h3; subst h3
      obtain ⟨v, hv, rfl⟩ := Option.map_eq_some_iff.mp hnm
      have hw := hts _ (hll ix v hv)
      split at h
      · rename_i h0
        rw [if_pos h0] at hw
        exact lv_ldc2 hx hb hown hw hdec (hk _ _ _ _ h a H locs hl hP hS)
      · rename_i h0
        rw [if_neg h0] at hw
        exact lv_ldc2 hx hb hown hw hdec (hk _ _ _ _ h a H locs hl hP hS)
    · cases hnm
  | lconst j =>
    obtain ⟨hb1, rfl⟩ := sm_ck_spec hnm
    obtain rfl : n = 1 := by simpa using hb1
    exact lv_lconst hx hb hdec rfl (hk _ _ _ _ h a H locs hl hP hS)
  | iinc j d =>
    simp only [sm_nm] at hnm
    split at hnm
    · rename_i hb1
      simp only [Bool.and_eq_true, beq_iff_eq, decide_eq_true_eq] at hb1
      obtain ⟨⟨⟨rfl, hb2⟩, hb3⟩, hb4⟩ := hb1
      split at hnm
      · rename_i h0
        obtain rfl := Option.some.inj hnm
        obtain ⟨x, hx1, h⟩ := sm_ldi_spec h
        obtain ⟨i, hi⟩ := sm_as_at (ad := ad) hx1
        exact lv_iinc (lv := sm_as ad 0 ls) hx hb hdec hl.2 hi (by rw [sm_nI_ofInt h0]) hb2 rfl (fun ls' hl' => hk _ _ _ _ h ls' H locs (sm_lv_st1 hl.1 (fun _ h => by cases h) hl') hP hS)
      · obtain rfl := Option.some.inj hnm
        obtain ⟨x, hx1, h⟩ := sm_ldi_spec h
        obtain ⟨i, hi⟩ := sm_as_at (ad := ad) hx1
        exact lv_iinc (lv := sm_as ad 0 ls) hx hb hdec hl.2 hi rfl hb2 rfl (fun ls' hl' => hk _ _ _ _ h ls' H locs (sm_lv_st1 hl.1 (fun _ h => by cases h) hl') hP hS)
    · cases hnm
  | iadd =>
    obtain ⟨hb1, rfl⟩ := sm_ck_spec hnm
    obtain rfl : n = 1 := by simpa using hb1
    obtain ⟨x, y, r, rfl, h⟩ := sm_i2_spec h
    exact lv_iadd hx hb hdec (hk _ _ _ _ h a H locs hl hP hS)
  | isub =>
    obtain ⟨hb1, rfl⟩ := sm_ck_spec hnm
    obtain rfl : n = 1 := by simpa using hb1
    obtain ⟨x, y, r, rfl, h⟩ := sm_i2_spec h
    exact lv_isub hx hb hdec (hk _ _ _ _ h a H locs hl hP hS)
  | imul =>
    obtain ⟨hb1, rfl⟩ := sm_ck_spec hnm
    obtain rfl : n = 1 := by simpa using hb1
    obtain ⟨x, y, r, rfl, h⟩ := sm_i2_spec h
    exact lv_imul hx hb hdec (hk _ _ _ _ h a H locs hl hP hS)
  | iand =>
    obtain ⟨hb1, rfl⟩ := sm_ck_spec hnm
    obtain rfl : n = 1 := by simpa using hb1
    obtain ⟨x, y, r, rfl, h⟩ := sm_i2_spec h
    exact lv_iand hx hb hdec (hk _ _ _ _ h a H locs hl hP hS)
  | ior =>
    obtain ⟨hb1, rfl⟩ := sm_ck_spec hnm
    obtain rfl : n = 1 := by simpa using hb1
    obtain ⟨x, y, r, rfl, h⟩ := sm_i2_spec h
    exact lv_ior hx hb hdec (hk _ _ _ _ h a H locs hl hP hS)
  | ixor =>
    obtain ⟨hb1, rfl⟩ := sm_ck_spec hnm
    obtain rfl : n = 1 := by simpa using hb1
    obtain ⟨x, y, r, rfl, h⟩ := sm_i2_spec h
    exact lv_ixor hx hb hdec (hk _ _ _ _ h a H locs hl hP hS)
  | ishl =>
    obtain ⟨hb1, rfl⟩ := sm_ck_spec hnm
    obtain rfl : n = 1 := by simpa using hb1
    obtain ⟨x, y, r, rfl, h⟩ := sm_i2_spec h
    exact lv_ishl hx hb hdec (hk _ _ _ _ h a H locs hl hP hS)
  | ishr =>
    obtain ⟨hb1, rfl⟩ := sm_ck_spec hnm
    obtain rfl : n = 1 := by simpa using hb1
    obtain ⟨x, y, r, rfl, h⟩ := sm_i2_spec h
    exact lv_ishr hx hb hdec (hk _ _ _ _ h a H locs hl hP hS)
  | iushr =>
    obtain ⟨hb1, rfl⟩ := sm_ck_spec hnm
    obtain rfl : n = 1 := by simpa using hb1
    obtain ⟨x, y, r, rfl, h⟩ := sm_i2_spec h
    exact lv_iushr hx hb hdec rfl (hk _ _ _ _ h a H locs hl hP hS)
  | idiv =>
    obtain ⟨hb1, rfl⟩ := sm_ck_spec hnm
    obtain rfl : n = 1 := by simpa using hb1
    obtain ⟨x, y, r, rfl, hne, h⟩ := sm_i2_spec h
    exact lv_idiv hx hb hdec hne (hk _ _ _ _ h a H locs hl hP hS)
  | irem =>
    obtain ⟨hb1, rfl⟩ := sm_ck_spec hnm
    obtain rfl : n = 1 := by simpa using hb1
    obtain ⟨x, y, r, rfl, hne, h⟩ := sm_i2_spec h
    exact lv_irem hx hb hdec hne (hk _ _ _ _ h a H locs hl hP hS)
  | ladd =>
    obtain ⟨hb1, rfl⟩ := sm_ck_spec hnm
    obtain rfl : n = 1 := by simpa using hb1
    obtain ⟨x, y, r, rfl, h⟩ := sm_l2_spec h
    exact lv_ladd hx hb hdec (hk _ _ _ _ h a H locs hl hP hS)
  | lsub =>
    obtain ⟨hb1, rfl⟩ := sm_ck_spec hnm
    obtain rfl : n = 1 := by simpa using hb1
    obtain ⟨x, y, r, rfl, h⟩ := sm_l2_spec h
    exact lv_lsub hx hb hdec (hk _ _ _ _ h a H locs hl hP hS)
  | lmul =>
    obtain ⟨hb1, rfl⟩ := sm_ck_spec hnm
    obtain rfl : n = 1 := by simpa using hb1
    obtain ⟨x, y, r, rfl, h⟩ := sm_l2_spec h
    exact lv_lmul hx hb hdec (hk _ _ _ _ h a H locs hl hP hS)
  | land =>
    obtain ⟨hb1, rfl⟩ := sm_ck_spec hnm
    obtain rfl : n = 1 := by simpa using hb1
    obtain ⟨x, y, r, rfl, h⟩ := sm_l2_spec h
    exact lv_land hx hb hdec (hk _ _ _ _ h a H locs hl hP hS)
  | lor =>
    obtain ⟨hb1, rfl⟩ := sm_ck_spec hnm
    obtain rfl : n = 1 := by simpa using hb1
    obtain ⟨x, y, r, rfl, h⟩ := sm_l2_spec h
    exact lv_lor hx hb hdec (hk _ _ _ _ h a H locs hl hP hS)
  | lxor =>
    obtain ⟨hb1, rfl⟩ := sm_ck_spec hnm
    obtain rfl : n = 1 := by simpa using hb1
    obtain ⟨x, y, r, rfl, h⟩ := sm_l2_spec h
    exact lv_lxor hx hb hdec (hk _ _ _ _ h a H locs hl hP hS)
  | ldiv =>
    obtain ⟨hb1, rfl⟩ := sm_ck_spec hnm
    obtain rfl : n = 1 := by simpa using hb1
    obtain ⟨x, y, r, rfl, hne, h⟩ := sm_l2_spec h
    exact lv_ldiv hx hb hdec hne (hk _ _ _ _ h a H locs hl hP hS)
  | lneg =>
    obtain ⟨hb1, rfl⟩ := sm_ck_spec hnm
    obtain rfl : n = 1 := by simpa using hb1
    obtain ⟨x, r, rfl, h⟩ := sm_l1_spec h
    exact lv_lneg hx hb hdec (hk _ _ _ _ h a H locs hl hP hS)
  | lshl =>
    obtain ⟨hb1, rfl⟩ := sm_ck_spec hnm
    obtain rfl : n = 1 := by simpa using hb1
    obtain ⟨x, y, r, rfl, h⟩ := sm_li_spec h
    exact lv_lshl hx hb hdec rfl (hk _ _ _ _ h a H locs hl hP hS)
  | lshr =>
    obtain ⟨hb1, rfl⟩ := sm_ck_spec hnm
    obtain rfl : n = 1 := by simpa using hb1
    obtain ⟨x, y, r, rfl, h⟩ := sm_li_spec h
    exact lv_lshr hx hb hdec rfl (hk _ _ _ _ h a H locs hl hP hS)
  | lushr =>
    obtain ⟨hb1, rfl⟩ := sm_ck_spec hnm
    obtain rfl : n = 1 := by simpa using hb1
    obtain ⟨x, y, r, rfl, h⟩ := sm_li_spec h
    exact lv_lushr hx hb hdec rfl (hk _ _ _ _ h a H locs hl hP hS)
  | lcmp =>
    obtain ⟨hb1, rfl⟩ := sm_ck_spec hnm
    obtain rfl : n = 1 := by simpa using hb1
    obtain ⟨x, y, r, rfl, h⟩ := sm_l2_spec h
    exact W.lcmp hx hb hdec (hk _ _ _ _ h a H locs hl hP hS)
  | i2l =>
    obtain ⟨hb1, rfl⟩ := sm_ck_spec hnm
    obtain rfl : n = 1 := by simpa using hb1
    obtain ⟨x, r, rfl, h⟩ := sm_i1_spec h
    exact lv_i2l hx hb hdec rfl (hk _ _ _ _ h a H locs hl hP hS)
  | l2i =>
    obtain ⟨hb1, rfl⟩ := sm_ck_spec hnm
    obtain rfl : n = 1 := by simpa using hb1
    obtain ⟨x, r, rfl, h⟩ := sm_l1_spec h
    exact lv_l2i hx hb hdec rfl (hk _ _ _ _ h a H locs hl hP hS)
  | dup =>
    obtain ⟨hb1, rfl⟩ := sm_ck_spec hnm
    obtain rfl : n = 1 := by simpa using hb1
    match st, h with
    | v :: r, h => exact lv_dup hx hb hdec (by rw [sm_tr_cat]; exact h.1) (hk _ _ _ _ h.2 a H locs hl hP hS)
  | dup2 =>
    obtain ⟨hb1, rfl⟩ := sm_ck_spec hnm
    obtain rfl : n = 1 := by simpa using hb1
    match st, h with
    | .long x :: r, h => exact lv_dup2_2 hx hb hdec rfl (hk _ _ _ _ h a H locs hl hP hS)
    | .int x :: w :: r, h => exact lv_dup2_11 hx hb hdec (by rw [sm_tr_cat]; exact h.1) (by rw [sm_tr_cat]; exact h.2.1) (hk _ _ _ _ h.2.2 a H locs hl hP hS)
    | .ref x :: w :: r, h => exact lv_dup2_11 hx hb hdec (by rw [sm_tr_cat]; exact h.1) (by rw [sm_tr_cat]; exact h.2.1) (hk _ _ _ _ h.2.2 a H locs hl hP hS)
    | .float x :: w :: r, h => exact lv_dup2_11 hx hb hdec (by rw [sm_tr_cat]; exact h.1) (by rw [sm_tr_cat]; exact h.2.1) (hk _ _ _ _ h.2.2 a H locs hl hP hS)
    | .null :: w :: r, h => exact lv_dup2_11 hx hb hdec (by rw [sm_tr_cat]; exact h.1) (by rw [sm_tr_cat]; exact h.2.1) (hk _ _ _ _ h.2.2 a H locs hl hP hS)
    | .double x :: w :: r, h => exact absurd h.1 (by simp [Value.category])
    | .retAddr x :: w :: r, h => exact lv_dup2_11 hx hb hdec (by rw [sm_tr_cat]; exact h.1) (by rw [sm_tr_cat]; exact h.2.1) (hk _ _ _ _ h.2.2 a H locs hl hP hS)
  | goto o =>
    obtain ⟨hb1, rfl⟩ := sm_ck_spec hnm
    simp only [Bool.and_eq_true, beq_iff_eq, decide_eq_true_eq] at hb1
    obtain ⟨rfl, hb2⟩ := hb1
    have ht := (Int.toNat_of_nonneg hb2).symm
    exact lv_goto hx hb hdec ht (hk _ _ _ _ h a H locs hl hP hS)
  | ifCond cd o =>
    obtain ⟨hb1, rfl⟩ := sm_ck_spec hnm
    simp only [Bool.and_eq_true, beq_iff_eq, decide_eq_true_eq] at hb1
    obtain ⟨rfl, hb2⟩ := hb1
    have ht := (Int.toNat_of_nonneg hb2).symm
    cases cd with
    | eq =>
      obtain ⟨x, r, rfl, h⟩ := sm_i1_spec h
      exact lv_if_eq hx hb hdec ht (fun hc => hk _ _ _ _ (h.1 hc) a H locs hl hP hS) (fun hc => hk _ _ _ _ (h.2 hc) a H locs hl hP hS)
    | ne =>
      obtain ⟨x, r, rfl, h⟩ := sm_i1_spec h
      exact lv_if_ne hx hb hdec ht (fun hc => hk _ _ _ _ (h.2 hc) a H locs hl hP hS) (fun hc => hk _ _ _ _ (h.1 hc) a H locs hl hP hS)
    | lt =>
      obtain ⟨x, r, rfl, h⟩ := sm_i1_spec h
      exact lv_if_lt hx hb hdec ht (fun hc => hk _ _ _ _ (h.1 (by have := hc; simp only [Int32.lt_iff_toInt_lt, Int32.le_iff_toInt_le, Int32.toInt_zero] at this; omega)) a H locs hl hP hS) (fun hc => hk _ _ _ _ (h.2 (by have := hc; simp only [Int32.lt_iff_toInt_lt, Int32.le_iff_toInt_le, Int32.toInt_zero] at this; omega)) a H locs hl hP hS)
    | ge =>
      obtain ⟨x, r, rfl, h⟩ := sm_i1_spec h
      exact lv_if_ge hx hb hdec ht (fun hc => hk _ _ _ _ (h.2 (by have := hc; simp only [Int32.lt_iff_toInt_lt, Int32.le_iff_toInt_le, Int32.toInt_zero] at this; omega)) a H locs hl hP hS) (fun hc => hk _ _ _ _ (h.1 (by have := hc; simp only [Int32.lt_iff_toInt_lt, Int32.le_iff_toInt_le, Int32.toInt_zero] at this; omega)) a H locs hl hP hS)
    | gt =>
      obtain ⟨x, r, rfl, h⟩ := sm_i1_spec h
      exact lv_if_gt hx hb hdec ht (fun hc => hk _ _ _ _ (h.1 (by have := hc; simp only [Int32.lt_iff_toInt_lt, Int32.le_iff_toInt_le, Int32.toInt_zero] at this; omega)) a H locs hl hP hS) (fun hc => hk _ _ _ _ (h.2 (by have := hc; simp only [Int32.lt_iff_toInt_lt, Int32.le_iff_toInt_le, Int32.toInt_zero] at this; omega)) a H locs hl hP hS)
    | le =>
      obtain ⟨x, r, rfl, h⟩ := sm_i1_spec h
      exact lv_if_le hx hb hdec ht (fun hc => hk _ _ _ _ (h.2 (by have := hc; simp only [Int32.lt_iff_toInt_lt, Int32.le_iff_toInt_le, Int32.toInt_zero] at this; omega)) a H locs hl hP hS) (fun hc => hk _ _ _ _ (h.1 (by have := hc; simp only [Int32.lt_iff_toInt_lt, Int32.le_iff_toInt_le, Int32.toInt_zero] at this; omega)) a H locs hl hP hS)
  | if_icmp cd o =>
    obtain ⟨hb1, rfl⟩ := sm_ck_spec hnm
    simp only [Bool.and_eq_true, beq_iff_eq, decide_eq_true_eq] at hb1
    obtain ⟨rfl, hb2⟩ := hb1
    have ht := (Int.toNat_of_nonneg hb2).symm
    cases cd with
    | eq =>
      obtain ⟨x, y, r, rfl, h⟩ := sm_i2_spec h
      exact lv_icmp_eq hx hb hdec ht (fun hc => hk _ _ _ _ (h.1 hc) a H locs hl hP hS) (fun hc => hk _ _ _ _ (h.2 hc) a H locs hl hP hS)
    | ne =>
      obtain ⟨x, y, r, rfl, h⟩ := sm_i2_spec h
      exact lv_icmp_ne hx hb hdec ht (fun hc => hk _ _ _ _ (h.2 hc) a H locs hl hP hS) (fun hc => hk _ _ _ _ (h.1 hc) a H locs hl hP hS)
    | lt =>
      obtain ⟨x, y, r, rfl, h⟩ := sm_i2_spec h
      exact lv_icmp_lt hx hb hdec ht (fun hc => hk _ _ _ _ (h.1 (by have := hc; simp only [Int32.lt_iff_toInt_lt, Int32.le_iff_toInt_le, Int32.toInt_zero] at this; omega)) a H locs hl hP hS) (fun hc => hk _ _ _ _ (h.2 (by have := hc; simp only [Int32.lt_iff_toInt_lt, Int32.le_iff_toInt_le, Int32.toInt_zero] at this; omega)) a H locs hl hP hS)
    | ge =>
      obtain ⟨x, y, r, rfl, h⟩ := sm_i2_spec h
      exact lv_icmp_ge hx hb hdec ht (fun hc => hk _ _ _ _ (h.2 (by have := hc; simp only [Int32.lt_iff_toInt_lt, Int32.le_iff_toInt_le, Int32.toInt_zero] at this; omega)) a H locs hl hP hS) (fun hc => hk _ _ _ _ (h.1 (by have := hc; simp only [Int32.lt_iff_toInt_lt, Int32.le_iff_toInt_le, Int32.toInt_zero] at this; omega)) a H locs hl hP hS)
    | gt =>
      obtain ⟨x, y, r, rfl, h⟩ := sm_i2_spec h
      exact lv_icmp_gt hx hb hdec ht (fun hc => hk _ _ _ _ (h.1 (by have := hc; simp only [Int32.lt_iff_toInt_lt, Int32.le_iff_toInt_le, Int32.toInt_zero] at this; omega)) a H locs hl hP hS) (fun hc => hk _ _ _ _ (h.2 (by have := hc; simp only [Int32.lt_iff_toInt_lt, Int32.le_iff_toInt_le, Int32.toInt_zero] at this; omega)) a H locs hl hP hS)
    | le =>
      obtain ⟨x, y, r, rfl, h⟩ := sm_i2_spec h
      exact lv_icmp_le hx hb hdec ht (fun hc => hk _ _ _ _ (h.2 (by have := hc; simp only [Int32.lt_iff_toInt_lt, Int32.le_iff_toInt_le, Int32.toInt_zero] at this; omega)) a H locs hl hP hS) (fun hc => hk _ _ _ _ (h.1 (by have := hc; simp only [Int32.lt_iff_toInt_lt, Int32.le_iff_toInt_le, Int32.toInt_zero] at this; omega)) a H locs hl hP hS)
  | tableswitch d lo hi os =>
    obtain ⟨hb1, rfl⟩ := sm_ck_spec hnm
    simp only [Bool.and_eq_true, beq_iff_eq, decide_eq_true_eq, List.all_eq_true] at hb1
    obtain ⟨⟨hb1, hb2⟩, hb3⟩ := hb1
    obtain ⟨x, r, rfl, h1, h2⟩ := sm_i1_spec h
    by_cases hin : x.toInt < lo ∨ hi < x.toInt
    · exact lv_tableOut hx hb hdec hin (Int.toNat_of_nonneg hb2).symm (hk _ _ _ _ (h1 hin) a H locs hl hP hS)
    · have h3 : ¬ x.toInt < lo := fun h => hin (Or.inl h)
      have h4 : ¬ hi < x.toInt := fun h => hin (Or.inr h)
      have hlen : (x.toInt - lo).toNat < os.size := by omega
      have ho : os[(x.toInt - lo).toNat]? = some os[(x.toInt - lo).toNat] := Array.getElem?_eq_getElem hlen
      have h5 := sm_tsw_spec h2 (x.toInt - lo).toNat (by omega) ((pc : Int) + os[(x.toInt - lo).toNat]) (by simp [hlen])
      have h6 := hb3 os[(x.toInt - lo).toNat] (Array.mem_toList_iff.mpr (Array.getElem_mem hlen))
      exact lv_tableIn hx hb hdec h3 h4 ho (Int.toNat_of_nonneg h6).symm (hk _ _ _ _ h5 a H locs hl hP hS)
  | lookupswitch d ps =>
    obtain ⟨hb1, rfl⟩ := sm_ck_spec hnm
    rw [Bool.and_eq_true, Bool.and_eq_true, decide_eq_true_eq] at hb1
    obtain ⟨⟨hb1, hb2⟩, hb3⟩ := hb1
    obtain ⟨x, r, rfl, h1⟩ := sm_i1_spec h
    obtain ⟨h5, h6⟩ := sm_lsw_spec (pc := pc) (f := fun t => k t ls r g) ps.toList d x.toInt h1 hb2 (fun a o h => of_decide_eq_true (List.all_eq_true.mp hb3 (a, o) h))
    exact lv_lookup hx hb hdec hb1 rfl h6 (hk _ _ _ _ h5 a H locs hl hP hS)
  | getfield ix =>
    simp only [sm_nm] at hnm
    split at hnm
    · rename_i h3; subst h3
      obtain ⟨v, hv, rfl⟩ := Option.map_eq_some_iff.mp hnm
      obtain ⟨pl, r, rfl, hh⟩ := sm_r1_spec h
      exact sm_getf C0 hcok (hfl ix v hv) hP hh hdec (fun w hw => hk _ _ _ _ hw a H locs hl hP hS)
    · cases hnm
  | putfield ix =>
    simp only [sm_nm] at hnm
    split at hnm
    · rename_i h3; subst h3
      obtain ⟨v, hv, rfl⟩ := Option.map_eq_some_iff.mp hnm
      obtain ⟨x, r, rfl, h⟩ := sm_i1_spec h
      obtain ⟨pl, r, rfl, h1, h⟩ := sm_r1_spec h
      exact sm_putf C0 hcok hlok (hfl ix v hv) hP hS h1 hdec (fun H locs hP hS => hk _ _ _ _ h a H locs hl hP hS)
    · cases hnm
  | invokevirtual ix =>
    simp only [sm_nm] at hnm
    split at hnm
    · rename_i h3; obtain ⟨rfl, h4⟩ := h3
      obtain ⟨v, hv, rfl⟩ := Option.map_eq_some_iff.mp hnm
      obtain ⟨as, r, rfl, hlen, hr, h⟩ := sm_pop_spec h
      simp only [List.append_nil] at h
      exact hcl ix v.1 v.2 hv h4 pc ls as r g _ hdec hlen hr h (fun w g' hw => hk _ _ _ _ hw) a H locs hl hP hS
    · cases hnm
  | invokestatic ix =>
    simp only [sm_nm] at hnm
    split at hnm
    · rename_i h3; subst h3
      obtain ⟨v, hv, rfl⟩ := Option.map_eq_some_iff.mp hnm
      obtain ⟨as, r, rfl, hlen, hr, h⟩ := sm_pop_spec h
      simp only [List.append_nil] at h
      exact hcs ix v.1 v.2 hv pc ls as r g _ hdec hlen hr h (fun w g' hw => hk _ _ _ _ hw) a H locs hl hP hS
    · cases hnm
  | arraylength =>
    obtain ⟨hb1, rfl⟩ := sm_ck_spec hnm
    obtain rfl : n = 1 := by simpa using hb1
    obtain ⟨pl, r, rfl, hh⟩ := sm_r1_spec h
    clear h
    have h := hh
    clear hh
    split at h
    · rename_i hp
      subst hp
      cases xs with
      | none => exact h.elim
      | some q =>
        obtain ⟨hX1, hX2, hX3⟩ := hX q rfl
        exact va_slen hx hb hX1 hX2 hX3 hS hdec (hk _ _ _ _ h a H locs hl hP hS)
    · obtain ⟨h1, h⟩ := h
      have hp := sm_ar_spec (lay := lay) (p := pl) rfl (by omega)
      rcases hKa _ _ _ hp with h2 | h2 | h2
      · exact va_alen hx hb hK hP pl (sm_pic_at hp) (t0 := 0) (by rw [h2]; rfl) rfl hdec (hk _ _ _ _ h a H locs hl hP hS)
      · exact va_alen hx hb hK hP pl (sm_pic_at hp) (t0 := 1) (by rw [h2]; rfl) rfl hdec (hk _ _ _ _ h a H locs hl hP hS)
      · exact va_alen hx hb hK hP pl (sm_pic_at hp) (t0 := 2) (by rw [h2]; rfl) rfl hdec (hk _ _ _ _ h a H locs hl hP hS)
  | iaload =>
    obtain ⟨hb1, rfl⟩ := sm_ck_spec hnm
    obtain rfl : n = 1 := by simpa using hb1
    obtain ⟨x, pl, r, rfl, hh⟩ := sm_ir_spec h
    clear h
    have h := hh
    clear hh
    split at h
    · rename_i hp
      subst hp
      cases xs with
      | none => exact h.elim
      | some q =>
        obtain ⟨hX1, hX2, hX3⟩ := hX q rfl
        exact va_sld hx hb hX1 hX2 hX3 hS (sm_in_vp h.1) hdec (hk _ _ _ _ h.2 a H locs hl hP hS)
    · obtain ⟨h1, h2, h⟩ := h
      have hp := sm_ar_spec h1 (by decide)
      exact va_iald hx hb hK hP pl 0 (sm_pic_at hp) rfl (sm_in_vp h2) hdec (hk _ _ _ _ h a H locs hl hP hS)
  | baload =>
    obtain ⟨hb1, rfl⟩ := sm_ck_spec hnm
    obtain rfl : n = 1 := by simpa using hb1
    obtain ⟨x, pl, r, rfl, h1, h2, h⟩ := sm_ir_spec h
    have hp := sm_ar_spec h1 (by decide)
    exact va_zald hx hb hK hP pl 1 (sm_pic_at hp) rfl (sm_in_vp h2) hdec (hk _ _ _ _ h a H locs hl hP hS)
  | laload =>
    obtain ⟨hb1, rfl⟩ := sm_ck_spec hnm
    obtain rfl : n = 1 := by simpa using hb1
    obtain ⟨x, pl, r, rfl, h1, h2, h⟩ := sm_ir_spec h
    have hp := sm_ar_spec h1 (by decide)
    exact va_lald hx hb hK hP pl 2 (sm_pic_at hp) rfl (sm_in_vp h2) hdec (hk _ _ _ _ h a H locs hl hP hS)
  | iastore =>
    obtain ⟨hb1, rfl⟩ := sm_ck_spec hnm
    obtain rfl : n = 1 := by simpa using hb1
    obtain ⟨x, i, pl, r, rfl, h1, h2, h⟩ := sm_iir_spec h
    have hp := sm_ar_spec h1 (by decide)
    refine va_iast hx hb hK hP (hD g) hS pl 0 (sm_pic_at hp) rfl (sm_in_vp h2) hdec (fun H1 locs1 hP1 _ hS1 => ?_)
    rw [show sm_pic lay ad cA g = sm_pic lay ad cA g from rfl, sm_pic_set (sm_e_gA hp (by decide))] at hP1
    exact hk _ _ _ _ h a H1 locs1 hl hP1 hS1
  | bastore =>
    obtain ⟨hb1, rfl⟩ := sm_ck_spec hnm
    obtain rfl : n = 1 := by simpa using hb1
    obtain ⟨x, i, pl, r, rfl, h1, h2, hz, h⟩ := sm_iir_spec h
    have hp := sm_ar_spec h1 (by decide)
    refine va_zast hx hb hK hP (hD g) hS pl 1 (sm_pic_at hp) rfl (sm_in_vp h2) hdec (fun H1 locs1 hP1 _ hS1 => ?_)
    rw [sm_nar_z (sm_zr_1 hz), sm_pic_set (sm_e_gA hp (by decide))] at hP1
    exact hk _ _ _ _ h a H1 locs1 hl hP1 hS1
  | lastore =>
    obtain ⟨hb1, rfl⟩ := sm_ck_spec hnm
    obtain rfl : n = 1 := by simpa using hb1
    obtain ⟨x, i, pl, r, rfl, h1, h2, h⟩ := sm_lir_spec h
    have hp := sm_ar_spec h1 (by decide)
    refine va_last hx hb hK hP (hD g) hS pl 2 (sm_pic_at hp) rfl (sm_in_vp h2) hdec (fun H1 locs1 hP1 _ hS1 => ?_)
    rw [sm_pic_set (sm_e_gL hp)] at hP1
    exact hk _ _ _ _ h a H1 locs1 hl hP1 hS1
  | ireturn =>
    obtain ⟨hb1, rfl⟩ := sm_ck_spec hnm
    obtain rfl : n = 1 := by simpa using hb1
    obtain ⟨x, r, rfl, rfl, hz, h⟩ := sm_i1_spec h
    exact (hret pc a H locs g hP hS).1 x hdec hz h
  | lreturn =>
    obtain ⟨hb1, rfl⟩ := sm_ck_spec hnm
    obtain rfl : n = 1 := by simpa using hb1
    obtain ⟨x, r, rfl, rfl, h2, hh⟩ := sm_l1_spec h
    exact (hret pc a H locs g hP hS).2.1 x hdec h2 hh
  | areturn =>
    obtain ⟨hb1, rfl⟩ := sm_ck_spec hnm
    obtain rfl : n = 1 := by simpa using hb1
    obtain ⟨x, r, rfl, rfl, h2, hh⟩ := sm_r1_spec h
    exact (hret pc a H locs g hP hS).2.2.1 x hdec h2 hh
  | return_ =>
    obtain ⟨hb1, rfl⟩ := sm_ck_spec hnm
    obtain rfl : n = 1 := by simpa using hb1
    obtain ⟨rfl, h2, h⟩ := h
    exact (hret pc a H locs g hP hS).2.2.2 hdec h2 h
  | _ => cases hnm
end SMM
