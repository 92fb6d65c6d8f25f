/-! Plain facts, then the small methods. -/
theorem sm_b0 : ((nI 0 = 0) = True) ∧ ((nI 1 = 0) = False) ∧ ((0 < 1) = True) ∧ ((0 < 2) = True) ∧ ((0 < 3) = True) := ⟨eq_true rfl, eq_false (by decide), eq_true (by decide), eq_true (by decide), eq_true (by decide)⟩
theorem nI_t {n : Nat} (h : n < 2147483648) : (nI n).toInt = (n : Int) := nI_toInt h
theorem e_arg_n : sm_arg [] = [] := (rfl)
theorem e_arg_r (x : Nat) (vs : List Value) : sm_arg (.ref x :: vs) = some (.ref x) :: sm_arg vs := (rfl)
theorem e_arg_i (x : Int32) (vs : List Value) : sm_arg (.int x :: vs) = some (.int x) :: sm_arg vs := (rfl)
theorem e_arg_l (x : Int64) (vs : List Value) : sm_arg (.long x :: vs) = some (.long x) :: none :: sm_arg vs := (rfl)
theorem e_args : (sm_arg [] = []) ∧ (∀ (x : Nat) (vs : List Value), sm_arg (.ref x :: vs) = some (.ref x) :: sm_arg vs) ∧ (∀ (x : Int32) (vs : List Value), sm_arg (.int x :: vs) = some (.int x) :: sm_arg vs) ∧ (∀ (x : Int64) (vs : List Value), sm_arg (.long x :: vs) = some (.long x) :: none :: sm_arg vs) := ⟨e_arg_n, e_arg_r, e_arg_i, e_arg_l⟩
def tn (x : Int32) : Nat := x.toInt.toNat
theorem tn_clamp (x : Int32) : x.toNatClampNeg = tn x := rfl
theorem tn_nI {n : Nat} (h : n < 2 ^ 31) : tn (nI n) = n := by unfold tn; rw [nI_toInt h]; rfl
theorem nI_tn {x : Int32} (h : 0 ≤ x.toInt) : x = nI (tn x) := by
  have h2 := Int32.toInt_lt x
  apply Int32.toInt_inj.mp
  unfold tn
  rw [nI_toInt (by omega)]
  omega
theorem sI_s : ((sI 0).toInt = -1) ∧ ((sI 1).toInt = -2) ∧ ((sI 2).toInt = -3) ∧ ((sI 3).toInt = -4) ∧ ((sI 4).toInt = -5) ∧ ((sI 5).toInt = -6) := ⟨by decide, by decide, by decide, by decide, by decide, by decide⟩
theorem eqI (x y : Int32) : (x = y) = (x.toInt = y.toInt) := propext Int32.toInt_inj.symm
theorem sI_toInt {n : Nat} (h : n < 2 ^ 31) : (sI n).toInt = -((n : Int) + 1) := by
  unfold sI; rw [Int32.toInt_ofInt_of_le (by omega) (by omega)]
theorem sm_in_nI {x : Int32} {n : Nat} (h : sm_in x n) : ∃ i, i < n ∧ x = nI i := by
  refine ⟨tn x, ?_, nI_tn h.1⟩
  have h1 := h.1
  have h2 := h.2
  unfold tn
  omega
theorem sm_in_of {i n : Nat} (h : i < n) (hn : n < 2147483648) : sm_in (nI i) n := by
  unfold sm_in; rw [nI_t (by omega)]; omega
def nQ (g : sm_G) : Nat := tn (rS g 1 504)
def nR (g : sm_G) : Nat := tn (rS g 12 602)
def nT (g : sm_G) : Nat := tn (rS g 15 809)
def nO (g : sm_G) : Nat := tn (rS g 15 810)
def nC (g : sm_G) : Nat := tn (rS g 25 205)
theorem e_cat : (∀ x : Int32, (Value.int x).category = 1) ∧ (∀ x : Nat, (Value.ref x).category = 1) ∧ (∀ x : Int64, (Value.long x).category = 2) := ⟨fun _ => rfl, fun _ => rfl, fun _ => rfl⟩
theorem n_up : (∀ (g : sm_G) (p c : Nat) (v : Int32), nQ (gS g p c v) = if 1 = p ∧ 504 = c then tn v else nQ g) ∧ (∀ (g : sm_G) (p : Nat) (f : Nat → Int32), nQ (gA g p f) = nQ g) ∧ (∀ (g : sm_G) (p : Nat) (f : Nat → Int64), nQ (gL g p f) = nQ g) ∧
  (∀ (g : sm_G) (p c : Nat) (v : Int32), nR (gS g p c v) = if 12 = p ∧ 602 = c then tn v else nR g) ∧ (∀ (g : sm_G) (p : Nat) (f : Nat → Int32), nR (gA g p f) = nR g) ∧ (∀ (g : sm_G) (p : Nat) (f : Nat → Int64), nR (gL g p f) = nR g) ∧
  (∀ (g : sm_G) (p c : Nat) (v : Int32), nT (gS g p c v) = if 15 = p ∧ 809 = c then tn v else nT g) ∧ (∀ (g : sm_G) (p : Nat) (f : Nat → Int32), nT (gA g p f) = nT g) ∧ (∀ (g : sm_G) (p : Nat) (f : Nat → Int64), nT (gL g p f) = nT g) ∧
  (∀ (g : sm_G) (p c : Nat) (v : Int32), nO (gS g p c v) = if 15 = p ∧ 810 = c then tn v else nO g) ∧ (∀ (g : sm_G) (p : Nat) (f : Nat → Int32), nO (gA g p f) = nO g) ∧ (∀ (g : sm_G) (p : Nat) (f : Nat → Int64), nO (gL g p f) = nO g) ∧
  (∀ (g : sm_G) (p c : Nat) (v : Int32), nC (gS g p c v) = if 25 = p ∧ 205 = c then tn v else nC g) ∧ (∀ (g : sm_G) (p : Nat) (f : Nat → Int32), nC (gA g p f) = nC g) ∧ (∀ (g : sm_G) (p : Nat) (f : Nat → Int64), nC (gL g p f) = nC g) := by
  refine ⟨?_, ?_, ?_, ?_, ?_, ?_, ?_, ?_, ?_, ?_, ?_, ?_, ?_, ?_, ?_⟩ <;> intros <;> simp only [nQ, nR, nT, nO, nC, rS_gS, rS_gA, rS_gL] <;> split <;> rfl
theorem g_up : (∀ (g : sm_G) (p c : Nat) (v w : Int32), gS (gS g p c v) p c w = gS g p c w) ∧ (∀ (g : sm_G) (p : Nat) (f h : Nat → Int32), gA (gA g p f) p h = gA g p h) ∧ (∀ (g : sm_G) (p : Nat) (f h : Nat → Int64), gL (gL g p f) p h = gL g p h) := by
  refine ⟨fun g p c v w => ?_, fun g p f h => ?_, fun g p f h => ?_⟩
  · refine Prod.ext (funext fun a => funext fun b => ?_) rfl
    simp only [gS]; split <;> rfl
  · refine Prod.ext rfl (Prod.ext (funext fun a => ?_) rfl)
    simp only [gA]; split <;> rfl
  · refine Prod.ext rfl (Prod.ext rfl (funext fun a => ?_))
    simp only [gL]; split <;> rfl
/-- the numbers of questions, reports, things, things gone, claims are what they are said to be, and in bounds -/
def zQ (g : sm_G) : Prop := rS g 1 504 = nI (nQ g) ∧ nQ g ≤ 16
def zR (g : sm_G) : Prop := rS g 12 602 = nI (nR g) ∧ nR g ≤ 60
def zT (g : sm_G) : Prop := rS g 15 809 = nI (nT g) ∧ nT g ≤ 60
def zO (g : sm_G) : Prop := rS g 15 810 = nI (nO g) ∧ nO g ≤ 60
def zC (g : sm_G) : Prop := rS g 25 205 = nI (nC g) ∧ nC g ≤ 100
def okQ (g : sm_G) (q : Int32) : Prop := 0 ≤ q.toInt ∧ q.toInt < (nQ g : Int)
def okR (g : sm_G) (r : Int32) : Prop := 0 ≤ r.toInt ∧ r.toInt < (nR g : Int)
def okT (g : sm_G) (t : Int32) : Prop := 0 ≤ t.toInt ∧ t.toInt < (nT g : Int)
def okC (g : sm_G) (c : Int32) : Prop := 0 ≤ c.toInt ∧ c.toInt < (nC g : Int)
theorem ok_nI {x : Int32} {n : Nat} (h : 0 ≤ x.toInt ∧ x.toInt < (n : Int)) : ∃ i, i < n ∧ x = nI i := sm_in_nI (x := x) (n := n) h
def sp_X5_size : sm_SP := fun as g K => match as with
  | [.ref p] => p = 1 ∧ zQ g ∧ K (some (.int (nI (nQ g)))) g
  | _ => False
theorem wf_X5_size : sm_wf lay (yX5_size, cX5_size, 1, (some .int)) 1 false sp_X5_size := by
  intro as g K h
  simp only [sp_X5_size] at h
  split at h
  · exact ⟨Nat.le_of_ble_eq_true rfl, by simp, rfl, fun _ => by obtain rfl := h.1; exact ⟨1, _, 5, [4, 5, 6, 7, 1], TX5, 5, rfl, rfl, rfl⟩⟩
  · exact h.elim
set_option maxHeartbeats 4000000 in
set_option maxRecDepth 100000 in
theorem b_X5_size : sm_body lay NX5_size 1 0 (sm_cl []) sp_X5_size := by
  intro K J S hW as g hs
  have hn := n_X5_size
  have hf := fd_all
  have ha := ar_all
  generalize NX5_size = N at hn hW
  generalize lay = L at hf ha hW
  obtain ⟨hS, hR⟩ := hW
  simp only [sp_X5_size] at hs
  split at hs
  case h_2 => exact hs.elim
  simp only [e_args, sm_pad, List.length_cons, List.length_nil, Nat.reduceAdd, Nat.reduceSub, List.replicate_succ, List.replicate_zero, List.cons_append, List.nil_append]
  rename_i p
  obtain ⟨rfl, ⟨z1, z2⟩, hs⟩ := hs
  apply hR 20
  simp (maxSteps := 10000000) (disch := omega) only [hS, hn, sm_eqs, hf, ha, sm_b0, Int.reduceToNat, ↓reduceIte, Nat.reduceEqDiff, true_and, and_true, List.length_nil, List.length_cons, Nat.reduceAdd, Nat.reduceLeDiff, Nat.zero_le, false_implies, true_implies, not_true_eq_false, not_false_eq_true, implies_true, Nat.reduceSub, Nat.reduceMul, Nat.reduceDiv, reduceCtorEq, tn_clamp, nI_t, tn_nI, nI_add, pk_mul, rS_gS, rS_gA, rS_gL, rA_gS, rA_gA, rA_gL, rL_gS, rL_gA, rL_gL, and_self, and_false, false_and, if_true, if_false, true_or, or_true, or_false, false_or, sm_in, eqI, sI_s, Int32.toInt_zero, Int.natCast_zero, Int.natCast_one, Int.cast_ofNat_Int, Int.reduceEq, Int.reduceLT, Int.reduceLE, Int.reduceNeg, Int.reduceNe, ne_eq, n_up, g_up, e_cat, z1]
  exact hs
theorem ok_X5_size (l : Launch) : sm_spok l lay sm_mt 1 65 sp_X5_size := Or.inr (Or.inr (Or.inr ⟨by decide, by decide, by
  rw [mt_65]
  exact sm_method (T := TX5_) v_cok v_lok v_ka v_tok_X5 mok_X5_size rfl (by unfold sm_rk; simp) wf_X5_size (fun _ h => absurd h List.not_mem_nil) b_X5_size⟩))
def sp_X5_has : sm_SP := fun as g K => match as with
  | [.ref p, .int q] => p = 1 ∧ zQ g ∧ (okQ g q → K (some (.int (nI 1))) g) ∧ (¬ okQ g q → K (some (.int (nI 0))) g)
  | _ => False
theorem wf_X5_has : sm_wf lay (yX5_has, cX5_has, 2, (some .boolean)) 2 false sp_X5_has := by
  intro as g K h
  simp only [sp_X5_has] at h
  split at h
  · exact ⟨Nat.le_of_ble_eq_true rfl, by simp, rfl, fun _ => by obtain rfl := h.1; exact ⟨1, _, 5, [4, 5, 6, 7, 1], TX5, 5, rfl, rfl, rfl⟩⟩
  · exact h.elim
set_option maxHeartbeats 4000000 in
set_option maxRecDepth 100000 in
theorem b_X5_has : sm_body lay NX5_has 2 1 (sm_cl []) sp_X5_has := by
  intro K J S hW as g hs
  have hn := n_X5_has
  have hf := fd_all
  have ha := ar_all
  generalize NX5_has = N at hn hW
  generalize lay = L at hf ha hW
  obtain ⟨hS, hR⟩ := hW
  simp only [sp_X5_has] at hs
  split at hs
  case h_2 => exact hs.elim
  simp only [e_args, sm_pad, List.length_cons, List.length_nil, Nat.reduceAdd, Nat.reduceSub, List.replicate_succ, List.replicate_zero, List.cons_append, List.nil_append]
  rename_i p q
  obtain ⟨rfl, ⟨z1, z2⟩, h1, h2⟩ := hs
  simp only [okQ] at h1 h2
  apply hR 20
  simp (maxSteps := 10000000) (disch := omega) only [hS, hn, sm_eqs, hf, ha, sm_b0, Int.reduceToNat, ↓reduceIte, Nat.reduceEqDiff, true_and, and_true, List.length_nil, List.length_cons, Nat.reduceAdd, Nat.reduceLeDiff, Nat.zero_le, false_implies, true_implies, not_true_eq_false, not_false_eq_true, implies_true, Nat.reduceSub, Nat.reduceMul, Nat.reduceDiv, reduceCtorEq, tn_clamp, nI_t, tn_nI, nI_add, pk_mul, rS_gS, rS_gA, rS_gL, rA_gS, rA_gA, rA_gL, rL_gS, rL_gA, rL_gL, and_self, and_false, false_and, if_true, if_false, true_or, or_true, or_false, false_or, sm_in, eqI, sI_s, Int32.toInt_zero, Int.natCast_zero, Int.natCast_one, Int.cast_ofNat_Int, Int.reduceEq, Int.reduceLT, Int.reduceLE, Int.reduceNeg, Int.reduceNe, ne_eq, n_up, g_up, e_cat, z1]
  clear hn hf ha hS hR
  grind
theorem ok_X5_has (l : Launch) : sm_spok l lay sm_mt 1 66 sp_X5_has := Or.inr (Or.inr (Or.inr ⟨by decide, by decide, by
  rw [mt_66]
  exact sm_method (T := TX5_) v_cok v_lok v_ka v_tok_X5 mok_X5_has rfl (by unfold sm_rk; simp) wf_X5_has (fun _ h => absurd h List.not_mem_nil) b_X5_has⟩))
/-! Bits of an int. -/
def bitI (x : Int32) (i : Nat) : Bool := x.toBitVec.getLsbD i
theorem bi_am : ∀ k, k < 32 → (nI k &&& 31).toBitVec.smod 32 = BitVec.ofNat 32 k := by decide +kernel
theorem bv_and32 (y : BitVec 32) : (y &&& 1#32 = 0#32) ↔ y.getLsbD 0 = false := by
  constructor
  · intro h
    have h2 := congrArg (fun z : BitVec 32 => z.getLsbD 0) h
    simpa using h2
  · intro h
    apply BitVec.eq_of_getLsbD_eq
    intro i hi
    cases i with
    | zero => rw [BitVec.getLsbD_and, h]; simp
    | succ i => simp [BitVec.getLsbD_one]
theorem bi_and {x : Int32} {k : Nat} (hk : k < 32) : ((x >>> (nI k &&& 31) &&& nI 1).toInt = 0) = (bitI x k = false) := by
  apply propext
  rw [show (0 : Int) = (nI 0).toInt from rfl, Int32.toInt_inj, ← Int32.toBitVec_inj, Int32.toBitVec_and, Int32.toBitVec_shiftRight, bi_am k hk]
  rw [show (nI 1).toBitVec = 1#32 from rfl, show (nI 0).toBitVec = 0#32 from rfl, bv_and32]
  have : (BitVec.ofNat 32 k).toNat = k := by simp; omega
  show (x.toBitVec.sshiftRight (BitVec.ofNat 32 k).toNat).getLsbD 0 = false ↔ bitI x k = false
  rw [this, BitVec.getLsbD_sshiftRight, if_pos (by omega)]
  simp only [bitI, Nat.add_zero, Nat.not_le, decide_false, Bool.not_false, Bool.true_and, Nat.reduceLeDiff, decide_eq_true_eq]
theorem bv_one_shl32 (k j : Nat) (hk : k < 32) : (1#32 <<< k).getLsbD j = decide (j = k) := by
  rw [BitVec.getLsbD_shiftLeft, BitVec.getLsbD_one]
  by_cases h : j = k
  · subst h; simp [hk]
  · by_cases h2 : j < k
    · simp [h2, h]
    · simp [h2, h]; omega
theorem bi_or {x : Int32} {k j : Nat} (hk : k < 32) : bitI (x ||| nI 1 <<< (nI k &&& 31)) j = (bitI x j || decide (j = k)) := by
  unfold bitI
  rw [Int32.toBitVec_or, Int32.toBitVec_shiftLeft, bi_am k hk, BitVec.getLsbD_or]
  have : (BitVec.ofNat 32 k).toNat = k := by simp; omega
  show (_ || (1#32 <<< (BitVec.ofNat 32 k).toNat).getLsbD j) = _
  rw [this, bv_one_shl32 k j hk]
theorem bi_land (x y : Int32) (j : Nat) : bitI (x &&& y) j = (bitI x j && bitI y j) := by
  unfold bitI; rw [Int32.toBitVec_and, BitVec.getLsbD_and]
theorem bi_not {x : Int32} {j : Nat} (hj : j < 32) : bitI (x ^^^ sI 0) j = !bitI x j := by
  unfold bitI
  rw [Int32.toBitVec_xor, show (sI 0).toBitVec = BitVec.allOnes 32 from rfl, BitVec.getLsbD_xor, BitVec.getLsbD_allOnes]
  simp [hj]
theorem bi_ext {x y : Int32} (h : ∀ t, t < 32 → bitI x t = bitI y t) : x = y := by
  apply Int32.toBitVec_inj.mp
  exact BitVec.eq_of_getLsbD_eq h
theorem bi_0 (j : Nat) : bitI (nI 0) j = false := by
  show (0#32).getLsbD j = false
  simp
theorem bi_nI {m i : Nat} (hm : m < 4294967296) : bitI (nI m) i = m.testBit i := by
  show (BitVec.ofNat 32 m).getLsbD i = _
  rw [BitVec.getLsbD, BitVec.toNat_ofNat, Nat.mod_eq_of_lt (by omega)]
/-- a mask of few bits is a small number -/
theorem bi_small {x : Int32} {D : Nat} (hD : D ≤ 12) (h : ∀ i, D ≤ i → i < 32 → bitI x i = false) : ∃ m, m < 2 ^ D ∧ m < 4096 ∧ x = nI m := by
  have hx : x.toBitVec.toNat < 2 ^ D := by
    refine Nat.lt_pow_two_of_testBit _ (fun i hi => ?_)
    by_cases h32 : i < 32
    · exact h i hi h32
    · exact BitVec.getLsbD_of_ge _ _ (by omega)
  have hp : 2 ^ D ≤ 2 ^ 12 := Nat.pow_le_pow_right (by omega) hD
  refine ⟨x.toBitVec.toNat, hx, by omega, ?_⟩
  refine bi_ext (fun t ht => ?_)
  rw [bi_nI (by omega)]; rfl
theorem bi_zero {x : Int32} : (x.toInt = 0) = (∀ i, i < 32 → bitI x i = false) := by
  refine propext ⟨fun h i _ => ?_, fun h => ?_⟩
  · have : x = nI 0 := Int32.toInt_inj.mp (by rw [h]; rfl)
    rw [this]; exact bi_0 i
  · have : x = nI 0 := bi_ext (fun t ht => by rw [h t ht, bi_0])
    rw [this]; rfl
theorem bi_full {D i : Nat} (hD : D ≤ 12) : bitI (nI (2 ^ D - 1)) i = decide (i < D) := by
  have hp : 2 ^ D ≤ 2 ^ 12 := Nat.pow_le_pow_right (by omega) hD
  rw [bi_nI (by omega), Nat.testBit_two_pow_sub_one]
theorem bi_shl : ∀ D, D ≤ 12 → nI 1 <<< (nI D &&& 31) = nI (2 ^ D) := by
  have h : ∀ D, D < 13 → nI 1 <<< (nI D &&& 31) = nI (2 ^ D) := by decide +kernel
  exact fun D hD => h D (by omega)
theorem bi_shr {x : Int32} {k j : Nat} (hk : k < 32) (hj : k + j < 32) : bitI (x >>> (nI k &&& 31)) j = bitI x (k + j) := by
  unfold bitI
  rw [Int32.toBitVec_shiftRight, bi_am k hk]
  have : (BitVec.ofNat 32 k).toNat = k := by simp; omega
  show (x.toBitVec.sshiftRight (BitVec.ofNat 32 k).toNat).getLsbD j = _
  rw [this, BitVec.getLsbD_sshiftRight, if_pos hj]
  simp only [show ¬ 32 ≤ j by omega, decide_false, Bool.not_false, Bool.true_and]
/-- nothing is left behind the k-th bit -/
theorem bi_none {x : Int32} {k : Nat} (hk : k < 32) (h : (x >>> (nI k &&& 31)).toInt = 0) {u : Nat} (h1 : k ≤ u) (h2 : u < 32) : bitI x u = false := by
  rw [bi_zero] at h
  have := h (u - k) (by omega)
  rw [bi_shr hk (by omega), show k + (u - k) = u by omega] at this
  exact this
theorem bi_hi {x : Int32} {u : Nat} (h : 32 ≤ u) : bitI x u = false := BitVec.getLsbD_of_ge _ _ h
theorem bi_off {x : Int32} {k j : Nat} (hk : k < 32) : bitI (x &&& (nI 1 <<< (nI k &&& 31) ^^^ sI 0)) j = (bitI x j && decide (j ≠ k)) := by
  by_cases hj : j < 32
  · rw [bi_land, bi_not hj]
    have h0 := bi_or (x := nI 0) (j := j) hk
    rw [bi_0, Bool.false_or] at h0
    have e : nI 0 ||| nI 1 <<< (nI k &&& 31) = nI 1 <<< (nI k &&& 31) := bi_ext (fun t _ => by
      unfold bitI; rw [Int32.toBitVec_or, BitVec.getLsbD_or]
      show ((0#32).getLsbD t || _) = _
      simp)
    rw [e] at h0
    rw [h0]
    by_cases h : j = k <;> simp [h]
  · rw [bi_hi (by omega), bi_hi (by omega)]; rfl
theorem bi_msk {n j : Nat} (hn : n ≤ 16) : bitI (nI 1 <<< (nI n &&& 31) - nI 1) j = decide (j < n) := by
  have h : ∀ D, D < 17 → nI 1 <<< (nI D &&& 31) - nI 1 = nI (2 ^ D - 1) := by decide +kernel
  have hp : 2 ^ n ≤ 2 ^ 16 := Nat.pow_le_pow_right (by omega) hn
  rw [h n (by omega), bi_nI (by omega), Nat.testBit_two_pow_sub_one]
def sp_X7_isRow : sm_SP := fun as g K => match as with
  | [.int x] => (sm_in x 60 → K (some (.int (nI 1))) g) ∧ (¬ sm_in x 60 → K (some (.int (nI 0))) g)
  | _ => False
theorem wf_X7_isRow : sm_wf lay (yX7_isRow, cX7_isRow, 1, (some .boolean)) 1 true sp_X7_isRow := by
  intro as g K h
  simp only [sp_X7_isRow] at h
  split at h
  · exact ⟨Nat.le_of_ble_eq_true rfl, by simp, rfl, fun h => by cases h⟩
  · exact h.elim
set_option maxHeartbeats 4000000 in
set_option maxRecDepth 100000 in
theorem b_X7_isRow : sm_body lay NX7_isRow 1 1 (sm_cl []) sp_X7_isRow := by
  intro K J S hW as g hs
  have hn := n_X7_isRow
  have hf := fd_all
  have ha := ar_all
  generalize NX7_isRow = N at hn hW
  generalize lay = L at hf ha hW
  obtain ⟨hS, hR⟩ := hW
  simp only [sp_X7_isRow] at hs
  split at hs
  case h_2 => exact hs.elim
  simp only [e_args, sm_pad, List.length_cons, List.length_nil, Nat.reduceAdd, Nat.reduceSub, List.replicate_succ, List.replicate_zero, List.cons_append, List.nil_append]
  rename_i x
  obtain ⟨h1, h2⟩ := hs
  simp only [sm_in] at h1 h2
  apply hR 20
  simp (maxSteps := 10000000) (disch := omega) only [hS, hn, sm_eqs, hf, ha, sm_b0, Int.reduceToNat, ↓reduceIte, Nat.reduceEqDiff, true_and, and_true, List.length_nil, List.length_cons, Nat.reduceAdd, Nat.reduceLeDiff, Nat.zero_le, false_implies, true_implies, not_true_eq_false, not_false_eq_true, implies_true, Nat.reduceSub, Nat.reduceMul, Nat.reduceDiv, reduceCtorEq, tn_clamp, nI_t, tn_nI, nI_add, pk_mul, rS_gS, rS_gA, rS_gL, rA_gS, rA_gA, rA_gL, rL_gS, rL_gA, rL_gL, and_self, and_false, false_and, if_true, if_false, true_or, or_true, or_false, false_or, sm_in, eqI, sI_s, Int32.toInt_zero, Int.natCast_zero, Int.natCast_one, Int.cast_ofNat_Int, Int.reduceEq, Int.reduceLT, Int.reduceLE, Int.reduceNeg, Int.reduceNe, ne_eq, n_up, g_up, e_cat]
  exact ⟨fun h => h2 (by omega), fun h => ⟨fun h => h1 (by omega), fun h => h2 (by omega)⟩⟩
theorem ok_X7_isRow (l : Launch) : sm_spok l lay sm_mt 1 83 sp_X7_isRow := Or.inr (Or.inr (Or.inr ⟨by decide, by decide, by
  rw [mt_83]
  exact sm_method (T := TX7_) v_cok v_lok v_ka v_tok_X7 mok_X7_isRow rfl (by unfold sm_rk; simp) wf_X7_isRow (fun _ h => absurd h List.not_mem_nil) b_X7_isRow⟩))
def sp_X7_lengthOf : sm_SP := fun as g K => match as with
  | [.ref p, .int x] => (p = 6 ∨ p = 9) ∧ (sm_in x 60 → K (some (.int (rA g (p + 1) (tn x)))) g) ∧ (¬ sm_in x 60 → K (some (.int (sI 0))) g)
  | _ => False
theorem wf_X7_lengthOf : sm_wf lay (yX7_lengthOf, cX7_lengthOf, 2, (some .int)) 2 false sp_X7_lengthOf := by
  intro as g K h
  simp only [sp_X7_lengthOf] at h
  split at h
  · exact ⟨Nat.le_of_ble_eq_true rfl, by simp, rfl, fun _ => by
      rcases h.1 with rfl | rfl
      · exact ⟨6, _, 7, [9, 87, 10], TX7, 3, rfl, rfl, rfl⟩
      · exact ⟨9, _, 7, [12, 88, 13], TX7, 3, rfl, rfl, rfl⟩⟩
  · exact h.elim
set_option maxHeartbeats 4000000 in
set_option maxRecDepth 100000 in
theorem b_X7_lengthOf : sm_body lay NX7_lengthOf 2 0 (sm_cl [(83, sp_X7_isRow)]) sp_X7_lengthOf := by
  intro K J S hW as g hs
  have hn := n_X7_lengthOf
  have hf := fd_all
  have ha := ar_all
  generalize NX7_lengthOf = N at hn hW
  generalize lay = L at hf ha hW
  obtain ⟨hS, hR⟩ := hW
  simp only [sp_X7_lengthOf] at hs
  split at hs
  case h_2 => exact hs.elim
  simp only [e_args, sm_pad, List.length_cons, List.length_nil, Nat.reduceAdd, Nat.reduceSub, List.replicate_succ, List.replicate_zero, List.cons_append, List.nil_append]
  rename_i p x
  obtain ⟨hp, h1, h2⟩ := hs
  rcases hp with rfl | rfl
  all_goals apply hR 20
  all_goals simp (maxSteps := 10000000) (disch := omega) only [hS, hn, sm_eqs, hf, ha, sm_b0, Int.reduceToNat, ↓reduceIte, Nat.reduceEqDiff, true_and, and_true, List.length_nil, List.length_cons, Nat.reduceAdd, Nat.reduceLeDiff, Nat.zero_le, false_implies, true_implies, not_true_eq_false, not_false_eq_true, implies_true, Nat.reduceSub, Nat.reduceMul, Nat.reduceDiv, reduceCtorEq, tn_clamp, nI_t, tn_nI, nI_add, pk_mul, rS_gS, rS_gA, rS_gL, rA_gS, rA_gA, rA_gL, rL_gS, rL_gA, rL_gL, and_self, and_false, false_and, if_true, if_false, true_or, or_true, or_false, false_or, sm_in, eqI, sI_s, Int32.toInt_zero, Int.natCast_zero, Int.natCast_one, Int.cast_ofNat_Int, Int.reduceEq, Int.reduceLT, Int.reduceLE, Int.reduceNeg, Int.reduceNe, ne_eq, n_up, g_up, e_cat, sp_X7_isRow]
  all_goals exact ⟨fun h => ⟨h, h1 h⟩, fun h => h2 h⟩
theorem ok_X7_lengthOf (l : Launch) : sm_spok l lay sm_mt 2 84 sp_X7_lengthOf := Or.inr (Or.inr (Or.inr ⟨by decide, by decide, by
  rw [mt_84]
  exact sm_method (T := TX7_) v_cok v_lok v_ka v_tok_X7 mok_X7_lengthOf rfl (by unfold sm_rk; simp) wf_X7_lengthOf (List.forall_mem_cons.mpr ⟨sm_spok_up (Nat.le_of_ble_eq_true rfl : 1 ≤ 1) (ok_X7_isRow l), fun _ h => absurd h List.not_mem_nil⟩) b_X7_lengthOf⟩))
def sp_X7_knownSetOf : sm_SP := fun as g K => match as with
  | [.ref p, .int x] => (p = 6 ∨ p = 9) ∧ (sm_in x 60 → K (some (.int (rA g (p / 3 + 83) (tn x)))) g) ∧ (¬ sm_in x 60 → K (some (.int (nI 0))) g)
  | _ => False
theorem wf_X7_knownSetOf : sm_wf lay (yX7_knownSetOf, cX7_knownSetOf, 2, (some .int)) 2 false sp_X7_knownSetOf := by
  intro as g K h
  simp only [sp_X7_knownSetOf] at h
  split at h
  · exact ⟨Nat.le_of_ble_eq_true rfl, by simp, rfl, fun _ => by
      rcases h.1 with rfl | rfl
      · exact ⟨6, _, 7, [9, 87, 10], TX7, 3, rfl, rfl, rfl⟩
      · exact ⟨9, _, 7, [12, 88, 13], TX7, 3, rfl, rfl, rfl⟩⟩
  · exact h.elim
set_option maxHeartbeats 4000000 in
set_option maxRecDepth 100000 in
theorem b_X7_knownSetOf : sm_body lay NX7_knownSetOf 2 0 (sm_cl [(83, sp_X7_isRow)]) sp_X7_knownSetOf := by
  intro K J S hW as g hs
  have hn := n_X7_knownSetOf
  have hf := fd_all
  have ha := ar_all
  generalize NX7_knownSetOf = N at hn hW
  generalize lay = L at hf ha hW
  obtain ⟨hS, hR⟩ := hW
  simp only [sp_X7_knownSetOf] at hs
  split at hs
  case h_2 => exact hs.elim
  simp only [e_args, sm_pad, List.length_cons, List.length_nil, Nat.reduceAdd, Nat.reduceSub, List.replicate_succ, List.replicate_zero, List.cons_append, List.nil_append]
  rename_i p x
  obtain ⟨hp, h1, h2⟩ := hs
  rcases hp with rfl | rfl
  all_goals apply hR 20
  all_goals simp (maxSteps := 10000000) (disch := omega) only [hS, hn, sm_eqs, hf, ha, sm_b0, Int.reduceToNat, ↓reduceIte, Nat.reduceEqDiff, true_and, and_true, List.length_nil, List.length_cons, Nat.reduceAdd, Nat.reduceLeDiff, Nat.zero_le, false_implies, true_implies, not_true_eq_false, not_false_eq_true, implies_true, Nat.reduceSub, Nat.reduceMul, Nat.reduceDiv, reduceCtorEq, tn_clamp, nI_t, tn_nI, nI_add, pk_mul, rS_gS, rS_gA, rS_gL, rA_gS, rA_gA, rA_gL, rL_gS, rL_gA, rL_gL, and_self, and_false, false_and, if_true, if_false, true_or, or_true, or_false, false_or, sm_in, eqI, sI_s, Int32.toInt_zero, Int.natCast_zero, Int.natCast_one, Int.cast_ofNat_Int, Int.reduceEq, Int.reduceLT, Int.reduceLE, Int.reduceNeg, Int.reduceNe, ne_eq, n_up, g_up, e_cat, sp_X7_isRow]
  all_goals exact ⟨fun h => ⟨h, h1 h⟩, fun h => h2 h⟩
theorem ok_X7_knownSetOf (l : Launch) : sm_spok l lay sm_mt 2 85 sp_X7_knownSetOf := Or.inr (Or.inr (Or.inr ⟨by decide, by decide, by
  rw [mt_85]
  exact sm_method (T := TX7_) v_cok v_lok v_ka v_tok_X7 mok_X7_knownSetOf rfl (by unfold sm_rk; simp) wf_X7_knownSetOf (List.forall_mem_cons.mpr ⟨sm_spok_up (Nat.le_of_ble_eq_true rfl : 1 ≤ 1) (ok_X7_isRow l), fun _ h => absurd h List.not_mem_nil⟩) b_X7_knownSetOf⟩))
/-- the answer to q in row x of the rows at p, as answerOf tells it -/
def aC (g : sm_G) (p : Nat) (x q : Int32) : Int32 := if 0 ≤ x.toInt ∧ x.toInt < 60 ∧ 0 ≤ q.toInt ∧ q.toInt < 16 ∧ bitI (rA g (p / 3 + 83) (tn x)) (tn q) = true then rA g (p + 2) (tn x * 16 + tn q) else sI 0
def sp_X7_answerOf : sm_SP := fun as g K => match as with
  | [.ref p, .int x, .int q] => (p = 6 ∨ p = 9) ∧ K (some (.int (aC g p x q))) g
  | _ => False
theorem wf_X7_answerOf : sm_wf lay (yX7_answerOf, cX7_answerOf, 3, (some .int)) 3 false sp_X7_answerOf := by
  intro as g K h
  simp only [sp_X7_answerOf] at h
  split at h
  · exact ⟨Nat.le_of_ble_eq_true rfl, by simp, rfl, fun _ => by
      rcases h.1 with rfl | rfl
      · exact ⟨6, _, 7, [9, 87, 10], TX7, 3, rfl, rfl, rfl⟩
      · exact ⟨9, _, 7, [12, 88, 13], TX7, 3, rfl, rfl, rfl⟩⟩
  · exact h.elim
set_option maxHeartbeats 4000000 in
set_option maxRecDepth 100000 in
theorem b_X7_answerOf : sm_body lay NX7_answerOf 3 0 (sm_cl [(83, sp_X7_isRow)]) sp_X7_answerOf := by
  intro K J S hW as g hs
  have hn := n_X7_answerOf
  have hf := fd_all
  have ha := ar_all
  generalize NX7_answerOf = N at hn hW
  generalize lay = L at hf ha hW
  obtain ⟨hS, hR⟩ := hW
  simp only [sp_X7_answerOf] at hs
  split at hs
  case h_2 => exact hs.elim
  simp only [e_args, sm_pad, List.length_cons, List.length_nil, Nat.reduceAdd, Nat.reduceSub, List.replicate_succ, List.replicate_zero, List.cons_append, List.nil_append]
  rename_i p x q
  obtain ⟨hp, hs⟩ := hs
  by_cases hc : sm_in x 60 ∧ sm_in q 16
  · obtain ⟨i, hi, rfl⟩ := sm_in_nI hc.1
    obtain ⟨j, hj, rfl⟩ := sm_in_nI hc.2
    clear hc
    simp (disch := omega) only [aC, nI_t, tn_nI] at hs
    cases hlt : bitI (rA g (p / 3 + 83) i) j with
    | true =>
      rw [if_pos ⟨by omega, by omega, by omega, by omega, hlt⟩] at hs
      rcases hp with rfl | rfl
      all_goals apply hR 60
      all_goals simp (maxSteps := 10000000) (disch := omega) only [hS, hn, sm_eqs, hf, ha, sm_b0, Int.reduceToNat, ↓reduceIte, Nat.reduceEqDiff, true_and, and_true, List.length_nil, List.length_cons, Nat.reduceAdd, Nat.reduceLeDiff, Nat.zero_le, false_implies, true_implies, not_true_eq_false, not_false_eq_true, implies_true, Nat.reduceSub, Nat.reduceMul, Nat.reduceDiv, reduceCtorEq, tn_clamp, nI_t, tn_nI, nI_add, pk_mul, rS_gS, rS_gA, rS_gL, rA_gS, rA_gA, rA_gL, rL_gS, rL_gA, rL_gL, and_self, and_false, false_and, if_true, if_false, true_or, or_true, or_false, false_or, sm_in, eqI, sI_s, Int32.toInt_zero, Int.natCast_zero, Int.natCast_one, Int.cast_ofNat_Int, Int.reduceEq, Int.reduceLT, Int.reduceLE, Int.reduceNeg, Int.reduceNe, ne_eq, n_up, g_up, e_cat, sp_X7_isRow, bi_and]
      all_goals simp only [Nat.reduceAdd, Nat.reduceDiv] at hs hlt
      repeat' (first | (refine And.intro ?_ ?_) | (intro _))
      all_goals (first | with_reducible assumption | omega | (exfalso; omega) | (exfalso; simp_all))
    | false =>
      rw [if_neg (fun h => by rw [hlt] at h; exact absurd h.2.2.2.2 Bool.false_ne_true)] at hs
      rcases hp with rfl | rfl
      all_goals apply hR 60
      all_goals simp (maxSteps := 10000000) (disch := omega) only [hS, hn, sm_eqs, hf, ha, sm_b0, Int.reduceToNat, ↓reduceIte, Nat.reduceEqDiff, true_and, and_true, List.length_nil, List.length_cons, Nat.reduceAdd, Nat.reduceLeDiff, Nat.zero_le, false_implies, true_implies, not_true_eq_false, not_false_eq_true, implies_true, Nat.reduceSub, Nat.reduceMul, Nat.reduceDiv, reduceCtorEq, tn_clamp, nI_t, tn_nI, nI_add, pk_mul, rS_gS, rS_gA, rS_gL, rA_gS, rA_gA, rA_gL, rL_gS, rL_gA, rL_gL, and_self, and_false, false_and, if_true, if_false, true_or, or_true, or_false, false_or, sm_in, eqI, sI_s, Int32.toInt_zero, Int.natCast_zero, Int.natCast_one, Int.cast_ofNat_Int, Int.reduceEq, Int.reduceLT, Int.reduceLE, Int.reduceNeg, Int.reduceNe, ne_eq, n_up, g_up, e_cat, sp_X7_isRow, bi_and]
      all_goals simp only [Nat.reduceAdd, Nat.reduceDiv] at hs hlt
      repeat' (first | (refine And.intro ?_ ?_) | (intro _))
      all_goals (first | with_reducible assumption | omega | (exfalso; omega) | (exfalso; simp_all))
  · have hs2 : K (some (.int (sI 0))) g := by
      simp only [aC] at hs
      rw [if_neg (fun h => hc ⟨⟨h.1, h.2.1⟩, ⟨h.2.2.1, h.2.2.2.1⟩⟩)] at hs
      exact hs
    simp only [sm_in] at hc
    rcases hp with rfl | rfl
    all_goals apply hR 60
    all_goals simp (maxSteps := 10000000) (disch := omega) only [hS, hn, sm_eqs, hf, ha, sm_b0, Int.reduceToNat, ↓reduceIte, Nat.reduceEqDiff, true_and, and_true, List.length_nil, List.length_cons, Nat.reduceAdd, Nat.reduceLeDiff, Nat.zero_le, false_implies, true_implies, not_true_eq_false, not_false_eq_true, implies_true, Nat.reduceSub, Nat.reduceMul, Nat.reduceDiv, reduceCtorEq, tn_clamp, nI_t, tn_nI, nI_add, pk_mul, rS_gS, rS_gA, rS_gL, rA_gS, rA_gA, rA_gL, rL_gS, rL_gA, rL_gL, and_self, and_false, false_and, if_true, if_false, true_or, or_true, or_false, false_or, sm_in, eqI, sI_s, Int32.toInt_zero, Int.natCast_zero, Int.natCast_one, Int.cast_ofNat_Int, Int.reduceEq, Int.reduceLT, Int.reduceLE, Int.reduceNeg, Int.reduceNe, ne_eq, n_up, g_up, e_cat, sp_X7_isRow]
    repeat' (first | (refine And.intro ?_ ?_) | (intro _))
    all_goals (first | with_reducible assumption | omega | (exfalso; omega))
theorem ok_X7_answerOf (l : Launch) : sm_spok l lay sm_mt 2 86 sp_X7_answerOf := Or.inr (Or.inr (Or.inr ⟨by decide, by decide, by
  rw [mt_86]
  exact sm_method (T := TX7_) v_cok v_lok v_ka v_tok_X7 mok_X7_answerOf rfl (by unfold sm_rk; simp) wf_X7_answerOf (List.forall_mem_cons.mpr ⟨sm_spok_up (Nat.le_of_ble_eq_true rfl : 1 ≤ 1) (ok_X7_isRow l), fun _ h => absurd h List.not_mem_nil⟩) b_X7_answerOf⟩))
/-- a row that is cut -/
def cutG (g : sm_G) (p x : Nat) (n : Int32) : sm_G := gA (gA g (p + 1) (upd (rA g (p + 1)) x n)) (p / 3 + 83) (upd (rA g (p / 3 + 83)) x (rA g (p / 3 + 83) x &&& (nI 1 <<< (nI (tn n) &&& 31) - nI 1)))
def sp_X7_cut : sm_SP := fun as g K => match as with
  | [.ref p, .int x, .int n] => (p = 6 ∨ p = 9) ∧ sm_in x 60 ∧ (∃ m : Nat, m ≤ 16 ∧ (rA g (p + 1) (tn x)) = nI m ∨ rA g (p + 1) (tn x) = sI 0) ∧
      ((rA g (p + 1) (tn x)).toInt ≠ -1 ∧ -1 ≤ n.toInt ∧ n.toInt ≤ (rA g (p + 1) (tn x)).toInt → K (some (.int (nI 1))) (cutG g p (tn x) n)) ∧
      (¬ ((rA g (p + 1) (tn x)).toInt ≠ -1 ∧ -1 ≤ n.toInt ∧ n.toInt ≤ (rA g (p + 1) (tn x)).toInt) → K (some (.int (nI 0))) g)
  | _ => False
theorem wf_X7_cut : sm_wf lay (yX7_cut, cX7_cut, 3, (some .boolean)) 3 false sp_X7_cut := by
  intro as g K h
  simp only [sp_X7_cut] at h
  split at h
  · exact ⟨Nat.le_of_ble_eq_true rfl, by simp, rfl, fun _ => by
      rcases h.1 with rfl | rfl
      · exact ⟨6, _, 7, [9, 87, 10], TX7, 3, rfl, rfl, rfl⟩
      · exact ⟨9, _, 7, [12, 88, 13], TX7, 3, rfl, rfl, rfl⟩⟩
  · exact h.elim
set_option maxHeartbeats 4000000 in
set_option maxRecDepth 100000 in
theorem b_X7_cut : sm_body lay NX7_cut 3 1 (sm_cl [(83, sp_X7_isRow), (228, sp_max)]) sp_X7_cut := by
  intro K J S hW as g hs
  have hn := n_X7_cut
  have hf := fd_all
  have ha := ar_all
  generalize NX7_cut = N at hn hW
  generalize lay = L at hf ha hW
  obtain ⟨hS, hR⟩ := hW
  simp only [sp_X7_cut] at hs
  split at hs
  case h_2 => exact hs.elim
  simp only [e_args, sm_pad, List.length_cons, List.length_nil, Nat.reduceAdd, Nat.reduceSub, List.replicate_succ, List.replicate_zero, List.cons_append, List.nil_append]
  rename_i p x n
  obtain ⟨hp, hx, hm, h1, h2⟩ := hs
  obtain ⟨i, hi, rfl⟩ := sm_in_nI hx
  simp (disch := omega) only [tn_nI, cutG] at h1 h2 hm
  have e1 : ¬ n.toInt < 0 → nI (tn n) = n := fun h => (nI_tn (by omega)).symm
  have e2 : n.toInt < 0 → nI (tn n) = nI 0 := fun h => by rw [show tn n = 0 by unfold tn; omega]
  by_cases hn0 : n.toInt < 0
  · rw [e2 hn0] at h1
    clear e1 e2
    rcases hp with rfl | rfl
    all_goals apply hR 80
    all_goals simp (maxSteps := 10000000) (disch := omega) only [hS, hn, sm_eqs, hf, ha, sm_b0, Int.reduceToNat, ↓reduceIte, Nat.reduceEqDiff, true_and, and_true, List.length_nil, List.length_cons, Nat.reduceAdd, Nat.reduceLeDiff, Nat.zero_le, false_implies, true_implies, not_true_eq_false, not_false_eq_true, implies_true, Nat.reduceSub, Nat.reduceMul, Nat.reduceDiv, reduceCtorEq, tn_clamp, nI_t, tn_nI, nI_add, pk_mul, rS_gS, rS_gA, rS_gL, rA_gS, rA_gA, rA_gL, rL_gS, rL_gA, rL_gL, and_self, and_false, false_and, if_true, if_false, true_or, or_true, or_false, false_or, sm_in, eqI, sI_s, Int32.toInt_zero, Int.natCast_zero, Int.natCast_one, Int.cast_ofNat_Int, Int.reduceEq, Int.reduceLT, Int.reduceLE, Int.reduceNeg, Int.reduceNe, ne_eq, n_up, g_up, e_cat, sp_X7_isRow, sp_max, sp_max, hn0]
    all_goals simp only [Nat.reduceAdd, Nat.reduceDiv] at h1 h2 hm
    all_goals clear hn hf ha hS hR
    all_goals grind
  · rw [e1 hn0] at h1
    clear e1 e2
    rcases hp with rfl | rfl
    all_goals apply hR 80
    all_goals simp (maxSteps := 10000000) (disch := omega) only [hS, hn, sm_eqs, hf, ha, sm_b0, Int.reduceToNat, ↓reduceIte, Nat.reduceEqDiff, true_and, and_true, List.length_nil, List.length_cons, Nat.reduceAdd, Nat.reduceLeDiff, Nat.zero_le, false_implies, true_implies, not_true_eq_false, not_false_eq_true, implies_true, Nat.reduceSub, Nat.reduceMul, Nat.reduceDiv, reduceCtorEq, tn_clamp, nI_t, tn_nI, nI_add, pk_mul, rS_gS, rS_gA, rS_gL, rA_gS, rA_gA, rA_gL, rL_gS, rL_gA, rL_gL, and_self, and_false, false_and, if_true, if_false, true_or, or_true, or_false, false_or, sm_in, eqI, sI_s, Int32.toInt_zero, Int.natCast_zero, Int.natCast_one, Int.cast_ofNat_Int, Int.reduceEq, Int.reduceLT, Int.reduceLE, Int.reduceNeg, Int.reduceNe, ne_eq, n_up, g_up, e_cat, sp_X7_isRow, sp_max, sp_max, hn0]
    all_goals simp only [Nat.reduceAdd, Nat.reduceDiv] at h1 h2 hm
    all_goals clear hn hf ha hS hR
    all_goals grind
theorem ok_X7_cut (l : Launch) : sm_spok l lay sm_mt 2 88 sp_X7_cut := Or.inr (Or.inr (Or.inr ⟨by decide, by decide, by
  rw [mt_88]
  exact sm_method (T := TX7_) v_cok v_lok v_ka v_tok_X7 mok_X7_cut rfl (by unfold sm_rk; simp) wf_X7_cut (List.forall_mem_cons.mpr ⟨sm_spok_up (Nat.le_of_ble_eq_true rfl : 1 ≤ 1) (ok_X7_isRow l), List.forall_mem_cons.mpr ⟨Or.inr (Or.inl ⟨rfl, rfl⟩), fun _ h => absurd h List.not_mem_nil⟩⟩) b_X7_cut⟩))
