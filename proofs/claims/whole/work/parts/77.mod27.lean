/-! The reference: the best way of the group, by sets. -/
theorem lgc_n {a b : Nat} (ha : a < 9223372036854775808) (hb : b < 9223372036854775808) : ((lg_cmp (lN a) (lN b)).toInt = 0) = (a = b) ∧ ((lg_cmp (lN a) (lN b)).toInt ≤ 0) = (a ≤ b) ∧ ((lg_cmp (lN a) (lN b)).toInt < 0) = (a < b) := by
  first
  | (rw [lgc_0, lgc_le, lgc_lt, ← Int64.toInt_inj, lN_t ha, lN_t hb]
     refine ⟨propext ?_, propext ?_, propext ?_⟩ <;> omega)
  | (rw [lgc_0, lgc_le, lgc_lt, ← Int64.toInt_inj, lN_t ha, lN_t hb]
     fail "G")
  | fail "G"
theorem lN_div {a b : Nat} (ha : a < 9223372036854775808) (hb : b < 9223372036854775808) : lN a / lN b = lN (a / b) := by
  apply Int64.toInt_inj.mp
  have h1 : a / b ≤ a := Nat.div_le_self _ _
  have h2 : (a : Int).tdiv (b : Int) = ((a / b : Nat) : Int) := rfl
  obtain ⟨q, hq⟩ : ∃ q, q = a / b := ⟨_, rfl⟩
  rw [← hq] at h1 h2 ⊢
  first
  | rw [Int64.toInt_div, lN_t ha, lN_t hb, lN_t (by omega), h2, Int.bmod_eq_of_le (by omega) (by omega)]
  | (rw [Int64.toInt_div, lN_t ha, lN_t hb, lN_t (by omega), h2]; fail "G2")
  | (rw [Int64.toInt_div, lN_t ha, lN_t hb]; fail "G3")
  | (rw [Int64.toInt_div]; fail "G4")
  | fail "G5"
theorem nI_xor (a b : Nat) : nI a ^^^ nI b = nI (a ^^^ b) := by
  apply Int32.toBitVec_inj.mp
  rw [Int32.toBitVec_xor]
  show BitVec.ofNat 32 a ^^^ BitVec.ofNat 32 b = BitVec.ofNat 32 (a ^^^ b)
  apply BitVec.eq_of_toNat_eq
  first
  | rw [BitVec.toNat_xor, BitVec.toNat_ofNat, BitVec.toNat_ofNat, BitVec.toNat_ofNat, Nat.xor_mod_two_pow]
  | (rw [BitVec.toNat_xor, BitVec.toNat_ofNat, BitVec.toNat_ofNat, BitVec.toNat_ofNat]
     refine Nat.eq_of_testBit_eq (fun i => ?_)
     rw [Nat.testBit_xor, Nat.testBit_mod_two_pow, Nat.testBit_mod_two_pow, Nat.testBit_mod_two_pow, Nat.testBit_xor]
     cases decide (i < 32) <;> simp)
  | fail "G"
/-- one below, or none -/
def pj : Nat → Int32
  | 0 => sI 0
  | j + 1 => nI j
theorem pj_sub {n : Nat} (h : n < 1000) : nI n - nI 1 = pj n := by
  cases n with
  | zero => decide
  | succ n => rw [pk_sub (by omega)]; rfl
theorem pj_inc {n : Nat} (h : n < 1000) : nI n + Int32.ofInt (-1) = pj n := by
  cases n with
  | zero => decide
  | succ n =>
    show _ = nI n
    apply Int32.toInt_inj.mp
    first
    | (rw [Int32.toInt_add, nI_t (by omega), nI_t (by omega), show (Int32.ofInt (-1)).toInt = -1 from rfl, Int.bmod_eq_of_le (by omega) (by omega)]
       omega)
    | (rw [Int32.toInt_add, nI_t (by omega), nI_t (by omega)]; fail "G")
    | fail "G"
theorem valj {u : Nat → Nat → Option Nat} {R C j : Nat} (h : j < C) (s : Nat) : val u R C (C - j) s = vst (val u R C (C - (j + 1))) (fun i => u i j) s R := by
  obtain ⟨n, hn⟩ : ∃ n, n = C - (j + 1) := ⟨_, rfl⟩
  rw [← hn, show C - j = n + 1 by omega]
  show vst (val u R C n) (fun i => u i (C - 1 - n)) s R = _
  rw [show C - 1 - n = j by omega]
theorem updL_s (f : Nat → Int64) (k : Nat) (x : Int64) : vp_updL f k x k = x := if_pos rfl
theorem updL_n {f : Nat → Int64} {k j : Nat} {x : Int64} (h : ¬ j = k) : vp_updL f k x j = f j := if_neg h
/-- rows of sums from one on -/
def sOK (u : Nat → Nat → Option Nat) (R C Z j : Nat) (S : Nat → Int64) : Prop := ∀ k, j ≤ k → k ≤ C → ∀ s, s < Z → S (k * Z + s) = lN (val u R C (C - k) s)
theorem row_ne {j k s t Z : Nat} (hs : s < Z) (ht : t < Z) (h : ¬ (j = k ∧ s = t)) : ¬ j * Z + s = k * Z + t := by
  intro e
  have h1 : (j * Z + s) / Z = j := by first | rw [Nat.add_comm, Nat.add_mul_div_right _ _ (by omega), Nat.div_eq_of_lt hs, Nat.zero_add] | fail "G"
  have h2 : (k * Z + t) / Z = k := by first | rw [Nat.add_comm, Nat.add_mul_div_right _ _ (by omega), Nat.div_eq_of_lt ht, Nat.zero_add] | fail "G"
  have h3 : j = k := by rw [← h1, e, h2]
  subst h3
  exact h ⟨rfl, by omega⟩
theorem wss_eq {c : sm_G} {R C : Nat} {mem gd : Nat → Nat} {W : Nat → Option Nat} {v : Nat} (hR : R ≤ 10) (h : (v : Int) = tot c R mem gd W) : v / 16679880978201 = wss c mem gd W R := by
  rw [tot_eq] at h
  obtain ⟨T, hT⟩ : ∃ T : Nat, T = 16679880978201 := ⟨_, rfl⟩
  have hw : ∀ i, i < R → wdg W i ≤ 20 := fun i _ => by unfold wdg; split <;> omega
  have b1 := (dgs_ok (wdg W) R hR hw).1
  have p1 : 0 < 21 ^ (10 - R) := Nat.pow_pos (by omega)
  have e10 : (21 : Nat) ^ 10 = 16679880978201 := by decide
  rw [e10, ← hT] at b1
  rw [← hT] at h ⊢
  have hT0 : 0 < T := by rw [hT]; exact Nat.le_of_ble_eq_true rfl
  clear hT e10
  have h : v = wss c mem gd W R * T + dgs (wdg W) R := by
    first
    | omega
    | exact Int.ofNat_inj.mp h
    | fail "G"
  first
  | rw [h, Nat.add_comm, Nat.add_mul_div_right _ _ (by omega), Nat.div_eq_of_lt (by omega), Nat.zero_add]
  | fail "G"

