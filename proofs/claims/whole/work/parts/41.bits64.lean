/-! How many bits a long has. -/
def mp8 (f : Nat → Nat) : Nat → Nat → Nat
  | 0, _ => 0
  | n + 1, x => f (x % 256) + 256 * mp8 f n (x / 256)
def mk8 (c : Nat) : Nat → Nat
  | 0 => 0
  | n + 1 => c + 256 * mk8 c n
def f81 (l : Nat) : Nat := l - (l / 2 &&& 85)
def f82 (l : Nat) : Nat := (l &&& 51) + (l / 4 &&& 51)
def f83 (l : Nat) : Nat := (l + l / 16) % 16
theorem land8 {a c x y : Nat} (ha : a < 256) (hc : c < 256) : (a + 256 * x) &&& (c + 256 * y) = (a &&& c) + 256 * (x &&& y) := by
  have hac : a &&& c < 256 := Nat.lt_of_le_of_lt Nat.and_le_left ha
  refine Nat.eq_of_testBit_eq (fun i => ?_)
  rw [show a + 256 * x = 2 ^ 8 * x + a by omega, show c + 256 * y = 2 ^ 8 * y + c by omega, show (a &&& c) + 256 * (x &&& y) = 2 ^ 8 * (x &&& y) + (a &&& c) by omega]
  rw [Nat.testBit_and, Nat.testBit_two_pow_mul_add _ (by omega), Nat.testBit_two_pow_mul_add _ (by omega), Nat.testBit_two_pow_mul_add _ (by omega)]
  split
  · rw [Nat.testBit_and]
  · rw [Nat.testBit_and]
theorem dec81 : ∀ l, l < 256 → ∀ u, u < 2 → (l / 2 + 128 * u &&& 85) = (l / 2 &&& 85) ∧ (l / 2 &&& 85) ≤ l ∧ f81 l < 256 := by decide +kernel
theorem dec82 : ∀ l, l < 256 → ∀ u, u < 4 → (l / 4 + 64 * u &&& 51) = (l / 4 &&& 51) := by decide +kernel
theorem dec82b : ∀ l, l < 256 → f82 (f81 l) < 256 ∧ f82 (f81 l) % 16 ≤ 4 ∧ f82 (f81 l) / 16 ≤ 4 := by decide +kernel
theorem dec83 : ∀ l, l < 256 → l % 16 ≤ 4 → l / 16 ≤ 4 → ∀ u, u < 5 → (l + l / 16 + 16 * u &&& 15) = f83 l := by decide +kernel
theorem dec8 : ∀ l, l < 256 → f83 (f82 (f81 l)) = cnt (fun i => l.testBit i) 8 := by decide +kernel
theorem a81 : ∀ n x, x < 256 ^ n → x - (x / 2 &&& mk8 85 n) = mp8 f81 n x ∧ (x / 2 &&& mk8 85 n) ≤ x := by
  intro n
  induction n with
  | zero => intro x hx; simp only [mk8, mp8, Nat.and_zero]; rw [Nat.pow_zero] at hx; omega
  | succ n ih =>
    intro x hx
    rw [Nat.pow_succ] at hx
    obtain ⟨i1, i2⟩ := ih (x / 256) (by omega)
    obtain ⟨d1, d2, d3⟩ := dec81 (x % 256) (by omega) (x / 256 % 2) (by omega)
    have e : x / 2 = (x % 256 / 2 + 128 * (x / 256 % 2)) + 256 * (x / 256 / 2) := by omega
    simp only [mk8, mp8]
    rw [e, land8 (by omega) (by omega), d1, ← i1]
    unfold f81
    omega
theorem a82 : ∀ n x, x < 256 ^ n → (x &&& mk8 51 n) + (x / 4 &&& mk8 51 n) = mp8 f82 n x := by
  intro n
  induction n with
  | zero => intro x hx; simp only [mk8, mp8, Nat.and_zero]
  | succ n ih =>
    intro x hx
    rw [Nat.pow_succ] at hx
    have i1 := ih (x / 256) (by omega)
    have d1 := dec82 (x % 256) (by omega) (x / 256 % 4) (by omega)
    have e : x / 4 = (x % 256 / 4 + 64 * (x / 256 % 4)) + 256 * (x / 256 / 4) := by omega
    have e2 : x = x % 256 + 256 * (x / 256) := by omega
    simp only [mk8, mp8]
    rw [e, land8 (by omega) (by omega), d1, ← i1]
    have e3 : x &&& (51 + 256 * mk8 51 n) = (x % 256 &&& 51) + 256 * (x / 256 &&& mk8 51 n) := by
      rw [← land8 (by omega) (by omega), ← e2]
    rw [e3]
    unfold f82
    omega
/-- all nibbles are 4 at most -/
def nb4 : Nat → Nat → Prop
  | 0, _ => True
  | n + 1, x => x % 256 % 16 ≤ 4 ∧ x % 256 / 16 ≤ 4 ∧ nb4 n (x / 256)
theorem a83 : ∀ n x, x < 256 ^ n → nb4 n x → (x + x / 16 &&& mk8 15 n) = mp8 f83 n x := by
  intro n
  induction n with
  | zero => intro x hx _; simp only [mk8, mp8, Nat.and_zero]
  | succ n ih =>
    intro x hx hn
    rw [Nat.pow_succ] at hx
    obtain ⟨n1, n2, n3⟩ := hn
    have i1 := ih (x / 256) (by omega) n3
    have hu : x / 256 % 16 ≤ 4 := by
      cases n with
      | zero => rw [Nat.pow_zero] at hx; omega
      | succ n => have := n3.1; omega
    have d1 := dec83 (x % 256) (by omega) n1 n2 (x / 256 % 16) (by omega)
    have e : x + x / 16 = (x % 256 + x % 256 / 16 + 16 * (x / 256 % 16)) + 256 * (x / 256 + x / 256 / 16) := by omega
    simp only [mk8, mp8]
    rw [e, land8 (by omega) (by omega), d1, ← i1]
theorem mp8_mp8 (f h : Nat → Nat) : ∀ n x, (∀ l, l < 256 → h l < 256) → mp8 f n (mp8 h n x) = mp8 (fun l => f (h l)) n x := by
  intro n
  induction n with
  | zero => intro x _; rfl
  | succ n ih =>
    intro x hh
    have h1 := hh (x % 256) (by omega)
    simp only [mp8]
    rw [show (h (x % 256) + 256 * mp8 h n (x / 256)) % 256 = h (x % 256) by omega, show (h (x % 256) + 256 * mp8 h n (x / 256)) / 256 = mp8 h n (x / 256) by omega, ih _ hh]
theorem mp8_lt (h : Nat → Nat) : ∀ n x, (∀ l, l < 256 → h l < 256) → mp8 h n x < 256 ^ n := by
  intro n
  induction n with
  | zero => intro x _; exact Nat.le_of_ble_eq_true rfl
  | succ n ih =>
    intro x hh
    have h1 := hh (x % 256) (by omega)
    have h2 := ih (x / 256) hh
    simp only [mp8]
    rw [Nat.pow_succ]; omega
theorem mp8_127 (h : Nat → Nat) : ∀ n x, (∀ l, l < 256 → h l < 128) → mp8 h (n + 1) x < 128 * 256 ^ n := by
  intro n
  induction n with
  | zero =>
    intro x hh
    have := hh (x % 256) (by omega)
    simp only [mp8, Nat.pow_zero]; omega
  | succ n ih =>
    intro x hh
    have h1 := hh (x % 256) (by omega)
    have h2 := ih (x / 256) hh
    rw [show mp8 h (n + 1 + 1) x = h (x % 256) + 256 * mp8 h (n + 1) (x / 256) from rfl, Nat.pow_succ]
    omega
theorem mp8_nb (h : Nat → Nat) : ∀ n x, (∀ l, l < 256 → h l < 256 ∧ h l % 16 ≤ 4 ∧ h l / 16 ≤ 4) → nb4 n (mp8 h n x) := by
  intro n
  induction n with
  | zero => intro x _; exact trivial
  | succ n ih =>
    intro x hh
    have h1 := hh (x % 256) (by omega)
    simp only [mp8, nb4]
    rw [show (h (x % 256) + 256 * mp8 h n (x / 256)) % 256 = h (x % 256) by omega, show (h (x % 256) + 256 * mp8 h n (x / 256)) / 256 = mp8 h n (x / 256) by omega]
    exact ⟨h1.2.1, h1.2.2, ih _ hh⟩
theorem mp8_congr {f h : Nat → Nat} (e : ∀ l, l < 256 → f l = h l) : ∀ n x, mp8 f n x = mp8 h n x := by
  intro n
  induction n with
  | zero => intro x; rfl
  | succ n ih => intro x; simp only [mp8]; rw [e _ (by omega), ih]
def sm8 (f : Nat → Nat) : Nat → Nat → Nat
  | 0, _ => 0
  | n + 1, x => f (x % 256) + sm8 f n (x / 256)
theorem cnt_app (f : Nat → Bool) (m : Nat) : ∀ n, cnt f (m + n) = cnt f m + cnt (fun i => f (m + i)) n := by
  intro n
  induction n with
  | zero => rfl
  | succ n ih =>
    show cnt f (m + n) + (if f (m + n) = true then 1 else 0) = _ + (cnt (fun i => f (m + i)) n + (if f (m + n) = true then 1 else 0))
    rw [ih]; omega
theorem cnt_8 : ∀ n x, cnt (fun i => x.testBit i) (8 * n) = sm8 (fun l => cnt (fun i => l.testBit i) 8) n x := by
  intro n
  induction n with
  | zero => intro x; rfl
  | succ n ih =>
    intro x
    rw [show 8 * (n + 1) = 8 + 8 * n by omega, cnt_app]
    simp only [sm8]
    rw [← ih]
    rw [cnt_congr (f := fun i => x.testBit i) (h := fun i => (x % 256).testBit i) 8 (fun i hi => by
      rw [show (256 : Nat) = 2 ^ 8 from rfl, Nat.testBit_mod_two_pow]; simp [hi])]
    rw [cnt_congr (f := fun i => x.testBit (8 + i)) (h := fun i => (x / 256).testBit i) (8 * n) (fun i hi => by
      rw [show (256 : Nat) = 2 ^ 8 from rfl, Nat.testBit_div_two_pow, Nat.add_comm])]
theorem sum8 (f : Nat → Nat) (hf : ∀ l, l < 256 → f l ≤ 8) (x : Nat) : mp8 f 8 x + mp8 f 8 x / 256 < 2 ^ 63 ∧ mp8 f 8 x + mp8 f 8 x / 256 + (mp8 f 8 x + mp8 f 8 x / 256) / 65536 < 2 ^ 63 ∧
    (mp8 f 8 x + mp8 f 8 x / 256 + (mp8 f 8 x + mp8 f 8 x / 256) / 65536 + (mp8 f 8 x + mp8 f 8 x / 256 + (mp8 f 8 x + mp8 f 8 x / 256) / 65536) / 4294967296) < 2 ^ 63 ∧
    (mp8 f 8 x + mp8 f 8 x / 256 + (mp8 f 8 x + mp8 f 8 x / 256) / 65536 + (mp8 f 8 x + mp8 f 8 x / 256 + (mp8 f 8 x + mp8 f 8 x / 256) / 65536) / 4294967296) % 128 = sm8 f 8 x ∧ sm8 f 8 x ≤ 64 := by
  have b : ∀ y, f (y % 256) ≤ 8 := fun y => hf _ (Nat.mod_lt _ (by omega))
  simp only [mp8, sm8]
  have b0 := b x
  have b1 := b (x / 256)
  have b2 := b (x / 256 / 256)
  have b3 := b (x / 256 / 256 / 256)
  have b4 := b (x / 256 / 256 / 256 / 256)
  have b5 := b (x / 256 / 256 / 256 / 256 / 256)
  have b6 := b (x / 256 / 256 / 256 / 256 / 256 / 256)
  have b7 := b (x / 256 / 256 / 256 / 256 / 256 / 256 / 256)
  generalize f (x % 256) = c0 at *
  generalize f (x / 256 % 256) = c1 at *
  generalize f (x / 256 / 256 % 256) = c2 at *
  generalize f (x / 256 / 256 / 256 % 256) = c3 at *
  generalize f (x / 256 / 256 / 256 / 256 % 256) = c4 at *
  generalize f (x / 256 / 256 / 256 / 256 / 256 % 256) = c5 at *
  generalize f (x / 256 / 256 / 256 / 256 / 256 / 256 % 256) = c6 at *
  generalize f (x / 256 / 256 / 256 / 256 / 256 / 256 / 256 % 256) = c7 at *
  clear hf b
  obtain ⟨Y, hY⟩ : ∃ Y, Y = c0 + 256 * (c1 + 256 * (c2 + 256 * (c3 + 256 * (c4 + 256 * (c5 + 256 * (c6 + 256 * (c7 + 256 * 0))))))) := ⟨_, rfl⟩
  rw [← hY]
  have e1 : Y / 256 = c1 + 256 * (c2 + 256 * (c3 + 256 * (c4 + 256 * (c5 + 256 * (c6 + 256 * c7))))) := by omega
  obtain ⟨Z, hZ⟩ : ∃ Z, Z = Y + Y / 256 := ⟨_, rfl⟩
  rw [← hZ]
  have e2 : Z = (c0 + c1) + 256 * ((c1 + c2) + 256 * ((c2 + c3) + 256 * ((c3 + c4) + 256 * ((c4 + c5) + 256 * ((c5 + c6) + 256 * ((c6 + c7) + 256 * c7)))))) := by omega
  clear hZ e1 hY
  have e3 : Z / 65536 = (c2 + c3) + 256 * ((c3 + c4) + 256 * ((c4 + c5) + 256 * ((c5 + c6) + 256 * ((c6 + c7) + 256 * c7)))) := by omega
  obtain ⟨V, hV⟩ : ∃ V, V = Z + Z / 65536 := ⟨_, rfl⟩
  rw [← hV]
  have e4 : V = (c0 + c1 + c2 + c3) + 256 * ((c1 + c2 + c3 + c4) + 256 * ((c2 + c3 + c4 + c5) + 256 * ((c3 + c4 + c5 + c6) + 256 * ((c4 + c5 + c6 + c7) + 256 * ((c5 + c6 + c7) + 256 * ((c6 + c7) + 256 * c7)))))) := by omega
  have z63 : Z < 2 ^ 63 := by omega
  clear hV e3 e2
  have e5 : V / 4294967296 = (c4 + c5 + c6 + c7) + 256 * ((c5 + c6 + c7) + 256 * ((c6 + c7) + 256 * c7)) := by omega
  refine ⟨z63, by omega, by omega, by omega, by omega⟩
-- the kit's rows for pasting (laws/BITS.to-paste), wb_
theorem wb_tb (n : Nat) : (lN n).toBitVec = BitVec.ofNat 64 n := rfl
theorem wb_inj {a b : Int64} (h : a.toBitVec = b.toBitVec) : a = b := Int64.toBitVec_inj.mp h
theorem wb_tn {n : Nat} (h : n < 2 ^ 64) : (lN n).toBitVec.toNat = n := by rw [wb_tb, BitVec.toNat_ofNat, Nat.mod_eq_of_lt h]
theorem wb_of (x : Int64) : ∃ n, n < 2 ^ 64 ∧ x = lN n := ⟨x.toBitVec.toNat, x.toBitVec.isLt, wb_inj (by rw [wb_tb]; simp)⟩
theorem wb_of32 (x : Int32) : ∃ n, n < 2 ^ 32 ∧ x = nI n := ⟨x.toBitVec.toNat, x.toBitVec.isLt, Int32.toBitVec_inj.mp (by show _ = BitVec.ofNat 32 _; simp)⟩
theorem wb_c : ∀ k, k < 64 → ((nI k).toInt64 &&& 63) = lN k := by decide +kernel
theorem wb_cu : ∀ k, k < 64 → ((nI k).toInt64.toUInt64 &&& Int64.toUInt64 63) = UInt64.ofNat k := by decide +kernel
theorem wb_sm : ∀ k, k < 64 → (BitVec.ofNat 64 k).smod 64 = BitVec.ofNat 64 k := by decide +kernel
theorem wb_pw {a b : Nat} (h : a ≤ b) : 2 ^ b = 2 ^ a * 2 ^ (b - a) := by rw [← Nat.pow_add]; congr 1; omega
theorem wb_lt2 {a b : Nat} (h : a < b) : 2 ^ a < 2 ^ b := Nat.pow_lt_pow_right (by decide) h
theorem wb_mod (n : Nat) : lN n = lN (n % 2 ^ 64) := wb_inj (by rw [wb_tb, wb_tb]; apply BitVec.eq_of_toNat_eq; rw [BitVec.toNat_ofNat, BitVec.toNat_ofNat, Nat.mod_mod])
theorem wb_shr {n k : Nat} (hn : n < 2 ^ 64) (hk : k < 64) : ((lN n).toUInt64 >>> ((nI k).toInt64.toUInt64 &&& Int64.toUInt64 63)).toInt64 = lN (n / 2 ^ k) := by
  rw [wb_cu k hk]
  apply wb_inj
  apply BitVec.eq_of_toNat_eq
  show ((lN n).toUInt64 >>> UInt64.ofNat k).toNat = (BitVec.ofNat 64 _).toNat
  have h1 : (UInt64.ofNat k).toNat = k := by
    show (BitVec.ofNat 64 k).toNat = k
    rw [BitVec.toNat_ofNat, Nat.mod_eq_of_lt (by omega)]
  have h2 : (lN n).toUInt64.toNat = n := wb_tn hn
  rw [UInt64.toNat_shiftRight, h1, h2, Nat.mod_eq_of_lt hk, Nat.shiftRight_eq_div_pow, BitVec.toNat_ofNat, Nat.mod_eq_of_lt (Nat.lt_of_le_of_lt (Nat.div_le_self _ _) hn)]
theorem wb_and {a b : Nat} (ha : a < 2 ^ 64) (hb : b < 2 ^ 64) : lN a &&& lN b = lN (a &&& b) := by
  apply wb_inj
  rw [Int64.toBitVec_and, wb_tb, wb_tb, wb_tb]
  apply BitVec.eq_of_toNat_eq
  rw [BitVec.toNat_and, BitVec.toNat_ofNat, BitVec.toNat_ofNat, BitVec.toNat_ofNat, Nat.mod_eq_of_lt ha, Nat.mod_eq_of_lt hb, Nat.mod_eq_of_lt (Nat.and_lt_two_pow _ hb)]
theorem nI_127 (a : Nat) : nI a &&& nI 127 = nI (a % 128) := by
  apply Int32.toBitVec_inj.mp
  rw [Int32.toBitVec_and]
  show BitVec.ofNat 32 a &&& BitVec.ofNat 32 127 = BitVec.ofNat 32 (a % 128)
  apply BitVec.eq_of_toNat_eq
  rw [BitVec.toNat_and, BitVec.toNat_ofNat, BitVec.toNat_ofNat, BitVec.toNat_ofNat]
  rw [show 127 % 2 ^ 32 = 2 ^ 7 - 1 from rfl, Nat.and_two_pow_sub_one_eq_mod]
  omega
theorem bc64_eq (x : Int64) : bc64 x = nI (cnt (bitL x) 64) ∧ cnt (bitL x) 64 ≤ 64 := by
  obtain ⟨n, hn, rfl⟩ := wb_of x
  have hp : (256 : Nat) ^ 8 = 2 ^ 64 := by decide
  have h81 : ∀ l, l < 256 → f81 l < 256 := fun l hl => (dec81 l hl 0 (by omega)).2.2
  have h82 : ∀ l, l < 256 → f82 (f81 l) < 256 ∧ f82 (f81 l) % 16 ≤ 4 ∧ f82 (f81 l) / 16 ≤ 4 := dec82b
  have h8 : ∀ l, l < 256 → cnt (fun i => l.testBit i) 8 ≤ 8 := fun l _ => cnt_le _ _
  have m1 : mk8 85 8 = 6148914691236517205 := by decide +kernel
  have m2 : mk8 51 8 = 3689348814741910323 := by decide +kernel
  have m3 : mk8 15 8 = 1085102592571150095 := by decide +kernel
  obtain ⟨s1, s1'⟩ := a81 8 n (by rw [hp]; exact hn)
  have t1 : mp8 f81 8 n < 2 ^ 64 := by rw [← hp]; exact mp8_lt f81 8 n h81
  have s2 := a82 8 (mp8 f81 8 n) (by rw [hp]; exact t1)
  rw [mp8_mp8 f82 f81 8 n h81] at s2
  have t2 : mp8 (fun l => f82 (f81 l)) 8 n < 2 ^ 64 := by rw [← hp]; exact mp8_lt _ 8 n (fun l hl => (h82 l hl).1)
  have s3 := a83 8 (mp8 (fun l => f82 (f81 l)) 8 n) (by rw [hp]; exact t2) (mp8_nb _ 8 n h82)
  rw [mp8_mp8 f83 (fun l => f82 (f81 l)) 8 n (fun l hl => (h82 l hl).1), mp8_congr (h := fun l => cnt (fun i => l.testBit i) 8) dec8 8 n] at s3
  obtain ⟨u1, u2, u3, u4, u5⟩ := sum8 (fun l => cnt (fun i => l.testBit i) 8) h8 n
  have q1 : bl1 (lN n) = lN (mp8 f81 8 n) := by
    unfold bl1 us64
    rw [wb_shr hn (by omega), wb_and (by omega) (by omega), lN_sub (by rw [← m1]; exact s1'), ← m1]
    exact congrArg lN s1
  have q2 : bl2 (lN (mp8 f81 8 n)) = lN (mp8 (fun l => f82 (f81 l)) 8 n) := by
    unfold bl2 us64
    rw [wb_shr t1 (by omega), wb_and (by omega) (by omega), wb_and (by omega) (by omega), lN_add, ← m2]
    exact congrArg lN s2
  have v2 : mp8 (fun l => f82 (f81 l)) 8 n + mp8 (fun l => f82 (f81 l)) 8 n / 16 < 2 ^ 64 := by
    have h127 : mp8 (fun l => f82 (f81 l)) 8 n < 128 * 256 ^ 7 := mp8_127 (fun l => f82 (f81 l)) 7 n (fun l hl => by have := h82 l hl; omega)
    have e : (128 : Nat) * 256 ^ 7 = 2 ^ 63 := by decide
    rw [e] at h127
    omega
  have q3 : bl3 (lN (mp8 (fun l => f82 (f81 l)) 8 n)) = lN (mp8 (fun l => cnt (fun i => l.testBit i) 8) 8 n) := by
    unfold bl3 us64
    rw [wb_shr t2 (by omega), lN_add, wb_and v2 (by omega), ← m3]
    exact congrArg lN s3
  have t3 : mp8 (fun l => cnt (fun i => l.testBit i) 8) 8 n < 2 ^ 64 := by
    rw [← hp]; exact mp8_lt _ 8 n (fun l hl => by have := h8 l hl; omega)
  generalize mp8 (fun l => cnt (fun i => l.testBit i) 8) 8 n = Y at *
  have q4 : bl4 (lN Y) = lN (Y + Y / 256) := by
    unfold bl4 us64
    rw [wb_shr t3 (by omega), lN_add]
  have q5 : bl5 (lN (Y + Y / 256)) = lN (Y + Y / 256 + (Y + Y / 256) / 65536) := by
    unfold bl5 us64
    rw [wb_shr (by omega) (by omega), lN_add]
  have q6 : bl6 (lN (Y + Y / 256 + (Y + Y / 256) / 65536)) = lN (Y + Y / 256 + (Y + Y / 256) / 65536 + (Y + Y / 256 + (Y + Y / 256) / 65536) / 4294967296) := by
    unfold bl6 us64
    rw [wb_shr (by omega) (by omega), lN_add]
  have hc : cnt (bitL (lN n)) 64 = sm8 (fun l => cnt (fun i => l.testBit i) 8) 8 n := by
    rw [← cnt_8 8 n]
    exact cnt_congr 64 (fun i _ => by
      show (BitVec.ofNat 64 n).getLsbD i = _
      rw [BitVec.getLsbD, BitVec.toNat_ofNat, Nat.mod_eq_of_lt hn])
  rw [hc]
  refine ⟨?_, u5⟩
  unfold bc64
  rw [q1, q2, q3, q4, q5, q6, lN_i, nI_127, u4]

