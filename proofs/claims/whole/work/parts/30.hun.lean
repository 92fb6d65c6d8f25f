/-! The assignment's prices: what holds of them, in plain numbers. -/
theorem l_add {x y : Int64} (h1 : -9223372036854775808 ≤ x.toInt + y.toInt) (h2 : x.toInt + y.toInt ≤ 9223372036854775807) : (x + y).toInt = x.toInt + y.toInt := by
  rw [Int64.toInt_add, Int.bmod_eq_of_le (by omega) (by omega)]
theorem l_sub {x y : Int64} (h1 : -9223372036854775808 ≤ x.toInt - y.toInt) (h2 : x.toInt - y.toInt ≤ 9223372036854775807) : (x - y).toInt = x.toInt - y.toInt := by
  rw [Int64.toInt_sub, Int.bmod_eq_of_le (by omega) (by omega)]
theorem pig : ∀ (k n : Nat) (f : Nat → Nat), (∀ i, i < n → f i < k) → (∀ i j, i < n → j < n → f i = f j → i = j) → n ≤ k := by
  intro k
  induction k with
  | zero =>
    intro n f h _
    rcases Nat.eq_zero_or_pos n with e | e
    · omega
    · exact absurd (h 0 e) (by omega)
  | succ k ih =>
    intro n f h hi
    by_cases hx : ∃ i, i < n ∧ f i = k
    · obtain ⟨i, h1, h2⟩ := hx
      have := ih (n - 1) (fun j => f (if j = i then n - 1 else j)) (fun j hj => by
        (try dsimp only)
        by_cases e : j = i
        · rw [if_pos e]
          have h3 := h (n - 1) (by omega)
          by_cases e2 : f (n - 1) = k
          · have := hi (n - 1) i (by omega) h1 (by rw [e2, h2]); omega
          · omega
        · rw [if_neg e]
          have h3 := h j (by omega)
          by_cases e2 : f j = k
          · have := hi j i (by omega) h1 (by rw [e2, h2]); omega
          · omega) (fun a b ha hb hab => by
        (try dsimp only at hab)
        by_cases e : a = i <;> by_cases e2 : b = i
        · omega
        · rw [if_pos e, if_neg e2] at hab
          have := hi _ _ (by omega) (by omega) hab; omega
        · rw [if_neg e, if_pos e2] at hab
          have := hi _ _ (by omega) (by omega) hab; omega
        · rw [if_neg e, if_neg e2] at hab
          exact hi _ _ (by omega) (by omega) hab)
      omega
    · have := ih n f (fun i hi2 => by
        have := h i hi2
        by_cases e : f i = k
        · exact absurd ⟨i, hi2, e⟩ hx
        · omega) hi
      omega
/-- costs in bounds; the columns behind C stand for none -/
def hA (C R : Nat) (ct : Nat → Int64) : Prop := ∀ i c, 1 ≤ i → i ≤ R → 1 ≤ c → c ≤ C + R → -576460752303423488 ≤ (ct (i * 31 + c)).toInt ∧ (ct (i * 31 + c)).toInt ≤ 1152921504606846976 ∧ (C < c → (ct (i * 31 + c)).toInt = 0)
/-- the first k rows hold a column each -/
def hM (C R k : Nat) (h : Nat → Nat) : Prop :=
  (∀ c, 1 ≤ c → c ≤ C + R → h c ≤ k) ∧ (∀ c d, 1 ≤ c → c ≤ C + R → 1 ≤ d → d ≤ C + R → h c = h d → h c ≠ 0 → c = d) ∧ (∀ i, 1 ≤ i → i ≤ k → ∃ c, 1 ≤ c ∧ c ≤ C + R ∧ h c = i)
/-- prices: none above a cost, for the first k rows; what is held costs just that -/
def hF (C R k : Nat) (ct rp cp : Nat → Int64) (h : Nat → Nat) : Prop :=
  (∀ i c, 1 ≤ i → i ≤ k → 1 ≤ c → c ≤ C + R → (rp i).toInt + (cp c).toInt ≤ (ct (i * 31 + c)).toInt) ∧
  (∀ c, 1 ≤ c → c ≤ C + R → h c ≠ 0 → (rp (h c)).toInt + (cp c).toInt = (ct (h c * 31 + c)).toInt) ∧
  (∀ c, 1 ≤ c → c ≤ C + R → (cp c).toInt ≤ 0) ∧ (∀ c, 1 ≤ c → c ≤ C + R → h c = 0 → (cp c).toInt = 0) ∧ (∀ i, k < i → i ≤ R → (rp i).toInt = 0)
/-- the way so far: n columns are reached, in the order o; the next is o n -/
def hP (C R ρ n : Nat) (ct rp cp sl : Nat → Int64) (cf rc : Nat → Int32) (h o : Nat → Nat) : Prop :=
  h 0 = ρ ∧ o 0 = 0 ∧ (∀ t, t ≤ n → o t ≤ C + R) ∧ (∀ t u, t ≤ n → u ≤ n → o t = o u → t = u) ∧
  (∀ c, c ≤ C + R → (rc c = nI 1 ∧ ∃ t, t < n ∧ o t = c) ∨ (rc c = nI 0 ∧ ∀ t, t < n → o t ≠ c)) ∧ (∀ t, 1 ≤ t → t < n → h (o t) ≠ 0) ∧
  (∀ t, 1 ≤ t → t ≤ n → ∃ u, u < t ∧ cf (o t) = nI (o u) ∧ (rp (h (o u))).toInt + (cp (o t)).toInt = (ct (h (o u) * 31 + o t)).toInt) ∧
  (1 ≤ n → ∀ c, 1 ≤ c → c ≤ C + R → rc c = nI 0 → (∃ u, u < n ∧ cf c = nI (o u) ∧ (sl c).toInt = (ct (h (o u) * 31 + c)).toInt - (rp (h (o u))).toInt - (cp c).toInt) ∧ ∀ u, u < n → (sl c).toInt ≤ (ct (h (o u) * 31 + c)).toInt - (rp (h (o u))).toInt - (cp c).toInt) ∧
  (n = 0 → ∀ c, c ≤ C + R → (sl c).toInt = 4611686018427387904)
/-- a free column that stands for none -/
theorem hM_free {C R k : Nat} {h : Nat → Nat} (hm : hM C R k h) (hk : k < R) : ∃ c, C < c ∧ c ≤ C + R ∧ h c = 0 := by
  refine Classical.byContradiction (fun hx => ?_)
  have hne : ∀ c, C < c → c ≤ C + R → h c ≠ 0 := fun c h1 h2 h3 => hx ⟨c, h1, h2, h3⟩
  have := pig k R (fun i => h (C + 1 + i) - 1) (fun i hi => by
    have h1 := hne (C + 1 + i) (by omega) (by omega)
    have h2 := hm.1 (C + 1 + i) (by omega) (by omega)
    (try dsimp only); omega) (fun i j hi hj e => by
    (try dsimp only at e)
    have h1 := hne (C + 1 + i) (by omega) (by omega)
    have h2 := hne (C + 1 + j) (by omega) (by omega)
    have := hm.2.1 (C + 1 + i) (C + 1 + j) (by omega) (by omega) (by omega) (by omega) (by omega) h1
    omega)
  omega
/-- prices in bounds -/
theorem hF_bd {C R k kf : Nat} {ct rp cp : Nat → Int64} {h : Nat → Nat} (ha : hA C R ct) (hm : hM C R k h) (hk : k < R) (hf : hF C R kf ct rp cp h) (hkf : k ≤ kf) (hkr : kf ≤ R) :
    (∀ i, 1 ≤ i → i ≤ kf → (rp i).toInt ≤ 0) ∧ (∀ c, 1 ≤ c → c ≤ C + R → -576460752303423488 ≤ (cp c).toInt ∧ (cp c).toInt ≤ 0) ∧ (∀ i, 1 ≤ i → i ≤ k → -576460752303423488 ≤ (rp i).toInt) := by
  obtain ⟨j, j1, j2, j3⟩ := hM_free hm hk
  have hv := hf.2.2.2.1 j (by omega) j2 j3
  have b1 : ∀ i, 1 ≤ i → i ≤ kf → (rp i).toInt ≤ 0 := fun i h1 h2 => by
    have h3 := hf.1 i j h1 h2 (by omega) j2
    have h4 := (ha i j h1 (by omega) (by omega) j2).2.2 j1
    omega
  refine ⟨b1, fun c h1 h2 => ⟨?_, hf.2.2.1 c h1 h2⟩, fun i h1 h2 => ?_⟩
  · by_cases e : h c = 0
    · have := hf.2.2.2.1 c h1 h2 e; omega
    · have h3 := hf.2.1 c h1 h2 e
      have h4 := hm.1 c h1 h2
      have h5 := b1 (h c) (by omega) (by omega)
      have h6 := (ha (h c) c (by omega) (by omega) h1 h2).1
      omega
  · obtain ⟨c, c1, c2, c3⟩ := hm.2.2 i h1 h2
    have h3 := hf.2.1 c c1 c2 (by omega)
    have h6 := (ha (h c) c (by omega) (by omega) c1 c2).1
    have h7 := hf.2.2.1 c c1 c2
    rw [c3] at h3 h6
    omega
/-- so few columns are reached before a free one -/
theorem hP_le {C R k n : Nat} {ct rp cp sl : Nat → Int64} {cf rc : Nat → Int32} {h o : Nat → Nat} (hm : hM C R k h) (hp : hP C R (k + 1) n ct rp cp sl cf rc h o) :
    (∀ t, 1 ≤ t → t ≤ n → 1 ≤ o t) ∧ n ≤ k + 1 ∧ (h (o n) ≠ 0 → n ≤ k) := by
  obtain ⟨h0, o0, p1, p2, p3, p4, p5, p6, p7⟩ := hp
  have hpos : ∀ t, 1 ≤ t → t ≤ n → 1 ≤ o t := fun t h1 h2 => by
    rcases Nat.eq_zero_or_pos (o t) with e | e
    · have := p2 t 0 h2 (by omega) (by rw [e, o0]); omega
    · exact e
  have hq : ∀ m, (∀ t, 1 ≤ t → t ≤ m → t ≤ n ∧ h (o t) ≠ 0) → m ≤ k := fun m hm2 => by
    refine pig k m (fun i => h (o (i + 1)) - 1) (fun i hi => ?_) (fun i j hi hj e => ?_)
    · obtain ⟨h1, h2⟩ := hm2 (i + 1) (by omega) (by omega)
      have := hm.1 (o (i + 1)) (hpos _ (by omega) h1) (p1 _ h1)
      (try dsimp only); omega
    · (try dsimp only at e)
      obtain ⟨h1, h2⟩ := hm2 (i + 1) (by omega) (by omega)
      obtain ⟨h3, h4⟩ := hm2 (j + 1) (by omega) (by omega)
      have := hm.2.1 _ _ (hpos _ (by omega) h1) (p1 _ h1) (hpos _ (by omega) h3) (p1 _ h3) (by omega) h2
      have := p2 _ _ h1 h3 this
      omega
  refine ⟨hpos, ?_, fun hn => hq n (fun t h1 h2 => ⟨h2, ?_⟩)⟩
  · have := hq (n - 1) (fun t h1 h2 => ⟨by omega, p4 t h1 (by omega)⟩)
    omega
  · by_cases e : t = n
    · rw [e]; exact hn
    · exact p4 t h1 (by omega)
/-- who holds the reached columns -/
theorem hP_row {C R k n : Nat} {ct rp cp sl : Nat → Int64} {cf rc : Nat → Int32} {h o : Nat → Nat} (hm : hM C R k h) (hp : hP C R (k + 1) n ct rp cp sl cf rc h o) (hh : h (o n) ≠ 0) :
    ∀ u, u ≤ n → 1 ≤ h (o u) ∧ h (o u) ≤ k + 1 ∧ (1 ≤ u → h (o u) ≤ k) ∧ (u = 0 → h (o u) = k + 1) := by
  intro u hu
  have hle := (hP_le hm hp).1
  obtain ⟨h0, o0, p1, p2, p3, p4, p5, p6, p7⟩ := hp
  rcases Nat.eq_zero_or_pos u with e | e
  · subst e; rw [o0, h0]; omega
  · have h1 := hm.1 (o u) (hle u e hu) (p1 u hu)
    have h2 : h (o u) ≠ 0 := by
      by_cases e2 : u = n
      · rw [e2]; exact hh
      · exact p4 u e (by omega)
    omega
theorem nI01 : nI 0 ≠ nI 1 := by decide
/-- after the look from a column -/
theorem hP_look {C R k n : Nat} {ct rp cp sl sl1 : Nat → Int64} {cf cf1 rc : Nat → Int32} {h o : Nat → Nat}
    (ha : hA C R ct) (hm : hM C R k h) (hk : k < R) (hf : hF C R (if n = 0 then k else k + 1) ct rp cp h) (hp : hP C R (k + 1) n ct rp cp sl cf rc h o) (hh : h (o n) ≠ 0)
    (e1 : ∀ c, 1 ≤ c → c ≤ C + R → upd rc (o n) (nI 1) c = nI 0 → ((ct (h (o n) * 31 + c) - rp (h (o n)) - cp c).toInt < (sl c).toInt → sl1 c = ct (h (o n) * 31 + c) - rp (h (o n)) - cp c ∧ cf1 c = nI (o n)) ∧ (¬ (ct (h (o n) * 31 + c) - rp (h (o n)) - cp c).toInt < (sl c).toInt → sl1 c = sl c ∧ cf1 c = cf c)) :
    (∀ c, 1 ≤ c → c ≤ C + R → upd rc (o n) (nI 1) c = nI 0 → (n ≠ 0 → 0 ≤ (sl1 c).toInt) ∧ -576460752303423488 ≤ (sl1 c).toInt ∧ (sl1 c).toInt ≤ 2305843009213693952 ∧ (∃ u, u ≤ n ∧ cf1 c = nI (o u) ∧ (sl1 c).toInt = (ct (h (o u) * 31 + c)).toInt - (rp (h (o u))).toInt - (cp c).toInt) ∧ ∀ u, u ≤ n → (sl1 c).toInt ≤ (ct (h (o u) * 31 + c)).toInt - (rp (h (o u))).toInt - (cp c).toInt) ∧
    (∃ c, 1 ≤ c ∧ c ≤ C + R ∧ upd rc (o n) (nI 1) c = nI 0 ∧ (sl1 c).toInt ≤ 576460752303423488) := by
  have hrow := hP_row hm hp hh
  have hle := (hP_le hm hp).1
  have hbd := hF_bd ha hm hk hf (by split <;> omega) (by split <;> omega)
  obtain ⟨h0, o0, p1, p2, p3, p4, p5, p6, p7⟩ := hp
  have hi0 := hrow n (Nat.le_refl _)
  have hu0 : (n = 0 → (rp (h (o n))).toInt = 0) ∧ -576460752303423488 ≤ (rp (h (o n))).toInt ∧ (rp (h (o n))).toInt ≤ 0 := by
    by_cases e : n = 0
    · have := hf.2.2.2.2 (h (o n)) (by rw [if_pos e]; omega) (by omega)
      omega
    · have h1 := hbd.1 (h (o n)) (by omega) (by rw [if_neg e]; omega)
      have h2 := hbd.2.2 (h (o n)) (by omega) (by omega)
      omega
  have un : ∀ c, upd rc (o n) (nI 1) c = nI 0 → rc c = nI 0 ∧ c ≠ o n := fun c e => by
    by_cases e2 : c = o n
    · subst e2; rw [pk_us] at e; exact absurd e.symm nI01
    · rw [pk_un e2] at e; exact ⟨e, e2⟩
  have cu : ∀ c, 1 ≤ c → c ≤ C + R → (ct (h (o n) * 31 + c) - rp (h (o n)) - cp c).toInt = (ct (h (o n) * 31 + c)).toInt - (rp (h (o n))).toInt - (cp c).toInt ∧ (ct (h (o n) * 31 + c)).toInt - (rp (h (o n))).toInt - (cp c).toInt ≤ 2305843009213693952 ∧ -576460752303423488 ≤ (ct (h (o n) * 31 + c)).toInt - (rp (h (o n))).toInt - (cp c).toInt := fun c h1 h2 => by
    have q1 := ha (h (o n)) c (by omega) (by omega) h1 h2
    have q2 := hbd.2.1 c h1 h2
    have q3 : (ct (h (o n) * 31 + c) - rp (h (o n))).toInt = (ct (h (o n) * 31 + c)).toInt - (rp (h (o n))).toInt := l_sub (by omega) (by omega)
    have q4 : (ct (h (o n) * 31 + c) - rp (h (o n)) - cp c).toInt = (ct (h (o n) * 31 + c) - rp (h (o n))).toInt - (cp c).toInt := l_sub (by omega) (by omega)
    omega
  have key : ∀ c, 1 ≤ c → c ≤ C + R → upd rc (o n) (nI 1) c = nI 0 → (∃ u, u ≤ n ∧ cf1 c = nI (o u) ∧ (sl1 c).toInt = (ct (h (o u) * 31 + c)).toInt - (rp (h (o u))).toInt - (cp c).toInt) ∧ ∀ u, u ≤ n → (sl1 c).toInt ≤ (ct (h (o u) * 31 + c)).toInt - (rp (h (o u))).toInt - (cp c).toInt := fun c h1 h2 h3 => by
    have hc := cu c h1 h2
    have he := e1 c h1 h2 h3
    obtain ⟨r1, r2⟩ := un c h3
    rw [hc.1] at he
    by_cases e : n = 0
    · have hs := p7 e c h2
      obtain ⟨a1, a2⟩ := he.1 (by omega)
      refine ⟨⟨n, Nat.le_refl _, a2, by rw [a1]; exact hc.1⟩, fun u hu => ?_⟩
      obtain rfl : u = n := by omega
      rw [a1, hc.1]; exact Int.le_refl _
    · obtain ⟨⟨u, hu, hcf, hsl⟩, hmin⟩ := p6 (by omega) c h1 h2 r1
      by_cases hlt : (ct (h (o n) * 31 + c)).toInt - (rp (h (o n))).toInt - (cp c).toInt < (sl c).toInt
      · obtain ⟨a1, a2⟩ := he.1 hlt
        refine ⟨⟨n, Nat.le_refl _, a2, by rw [a1]; exact hc.1⟩, fun v hv => ?_⟩
        rw [a1, hc.1]
        by_cases ev : v = n
        · rw [ev]; exact Int.le_refl _
        · have := hmin v (by omega); omega
      · obtain ⟨a1, a2⟩ := he.2 hlt
        refine ⟨⟨u, by omega, by rw [a2]; exact hcf, by rw [a1]; exact hsl⟩, fun v hv => ?_⟩
        rw [a1]
        by_cases ev : v = n
        · rw [ev]; omega
        · exact hmin v (by omega)
  refine ⟨fun c h1 h2 h3 => ?_, ?_⟩
  · obtain ⟨⟨u, hu, k1, k2⟩, kk⟩ := key c h1 h2 h3
    have hr := hrow u hu
    have hq := ha (h (o u)) c (by omega) (by omega) h1 h2
    have hvb := hbd.2.1 c h1 h2
    have hn0 : n ≠ 0 → 0 ≤ (sl1 c).toInt := fun e => by
      have := hf.1 (h (o u)) c (by omega) (by rw [if_neg e]; omega) h1 h2
      omega
    refine ⟨hn0, ?_, ?_, ⟨u, hu, k1, k2⟩, kk⟩
    · by_cases e : n = 0
      · obtain rfl : u = n := by omega
        have := cu c h1 h2; omega
      · have := hn0 e; omega
    · have := kk n (Nat.le_refl _)
      have := cu c h1 h2; omega
  · obtain ⟨j, j1, j2, j3⟩ := hM_free hm hk
    have hj : upd rc (o n) (nI 1) j = nI 0 := by
      have hne : j ≠ o n := fun e => hh (by rw [← e]; exact j3)
      rw [pk_un hne]
      rcases p3 j j2 with ⟨_, t, ht, e⟩ | ⟨e, _⟩
      · have := (hrow t (by omega)).1
        rw [e, j3] at this; omega
      · exact e
    refine ⟨j, by omega, j2, hj, ?_⟩
    have h1 := (key j (by omega) j2 hj).2 n (Nat.le_refl _)
    have h2 := (ha (h (o n)) j (by omega) (by omega) (by omega) j2).2.2 j1
    have h3 := hf.2.2.2.1 j (by omega) j2 j3
    omega
/-- one column more is reached -/
theorem hP_step {C R k n f : Nat} {ct rp cp sl sl1 rp2 cp2 sl2 : Nat → Int64} {cf cf1 rc : Nat → Int32} {h o : Nat → Nat}
    (ha : hA C R ct) (hm : hM C R k h) (hk : k < R) (hf : hF C R (if n = 0 then k else k + 1) ct rp cp h) (hp : hP C R (k + 1) n ct rp cp sl cf rc h o) (hh : h (o n) ≠ 0)
    (e1 : ∀ c, 1 ≤ c → c ≤ C + R → upd rc (o n) (nI 1) c = nI 0 → ((ct (h (o n) * 31 + c) - rp (h (o n)) - cp c).toInt < (sl c).toInt → sl1 c = ct (h (o n) * 31 + c) - rp (h (o n)) - cp c ∧ cf1 c = nI (o n)) ∧ (¬ (ct (h (o n) * 31 + c) - rp (h (o n)) - cp c).toInt < (sl c).toInt → sl1 c = sl c ∧ cf1 c = cf c))
    (e1' : ∀ c, 1 ≤ c → c ≤ C + R → upd rc (o n) (nI 1) c = nI 1 → cf1 c = cf c)
    (f1 : 1 ≤ f) (f2 : f ≤ C + R) (f3 : upd rc (o n) (nI 1) f = nI 0) (f4 : ∀ c, 1 ≤ c → c ≤ C + R → upd rc (o n) (nI 1) c = nI 0 → (sl1 f).toInt ≤ (sl1 c).toInt)
    (e2a : ∀ c, c ≤ C + R → upd rc (o n) (nI 1) c = nI 1 → rp2 (h c) = rp (h c) + sl1 f) (e2b : ∀ i, i ≤ R → (∀ c, c ≤ C + R → upd rc (o n) (nI 1) c = nI 1 → h c ≠ i) → rp2 i = rp i)
    (e3 : ∀ c, c ≤ C + R → (upd rc (o n) (nI 1) c = nI 1 → cp2 c = cp c - sl1 f) ∧ (upd rc (o n) (nI 1) c = nI 0 → cp2 c = cp c))
    (e4 : ∀ c, c ≤ C + R → upd rc (o n) (nI 1) c = nI 0 → sl2 c = sl1 c - sl1 f) :
    hF C R (k + 1) ct rp2 cp2 h ∧ hP C R (k + 1) (n + 1) ct rp2 cp2 sl2 cf1 (upd rc (o n) (nI 1)) h (fun t => if t = n + 1 then f else o t) := by
  obtain ⟨hlk, ⟨j, j1, j2, j3, j4⟩⟩ := hP_look ha hm hk hf hp hh e1
  have hrow := hP_row hm hp hh
  have hle := (hP_le hm hp).1
  have hbd := hF_bd ha hm hk hf (by split <;> omega) (by split <;> omega)
  obtain ⟨h0, o0, p1, p2, p3, p4, p5, p6, p7⟩ := hp
  have hd := hlk f f1 f2 f3
  have hdu := f4 j j1 j2 j3
  -- reached columns
  have rch : ∀ c, c ≤ C + R → (upd rc (o n) (nI 1) c = nI 1 ∧ ∃ t, t ≤ n ∧ o t = c) ∨ (upd rc (o n) (nI 1) c = nI 0 ∧ ∀ t, t ≤ n → o t ≠ c) := fun c hc => by
    by_cases e : c = o n
    · refine Or.inl ⟨by rw [e]; exact pk_us, n, Nat.le_refl _, e.symm⟩
    · rw [pk_un e]
      rcases p3 c hc with ⟨r, t, ht, et⟩ | ⟨r, hr⟩
      · exact Or.inl ⟨r, t, by omega, et⟩
      · refine Or.inr ⟨r, fun t ht => ?_⟩
        by_cases e2 : t = n
        · rw [e2]; exact fun e3 => e e3.symm
        · exact hr t (by omega)
  have r1 : ∀ t, t ≤ n → upd rc (o n) (nI 1) (o t) = nI 1 := fun t ht => by
    rcases rch (o t) (p1 t ht) with ⟨r, _⟩ | ⟨_, r⟩
    · exact r
    · exact absurd rfl (r t ht)
  have hru : ∀ t, t ≤ n → -576460752303423488 ≤ (rp (h (o t))).toInt ∧ (rp (h (o t))).toInt ≤ 0 := fun t ht => by
    have hr := hrow t ht
    by_cases e : t = 0
    · by_cases en : n = 0
      · have := hf.2.2.2.2 (h (o t)) (by rw [if_pos en]; omega) (by omega); omega
      · obtain ⟨u, hu, _, htg⟩ := p5 1 (Nat.le_refl _) (by omega)
        obtain rfl : u = t := by omega
        have q1 := ha (h (o u)) (o 1) (by omega) (by omega) (hle 1 (by omega) (by omega)) (p1 1 (by omega))
        have q2 := hbd.2.1 (o 1) (hle 1 (by omega) (by omega)) (p1 1 (by omega))
        have q3 := hbd.1 (h (o u)) (by omega) (by rw [if_neg en]; omega)
        omega
    · have q1 := hbd.2.2 (h (o t)) (by omega) (by omega)
      have q3 := hbd.1 (h (o t)) (by omega) (by split <;> omega)
      omega
  have RP : ∀ t, t ≤ n → (rp2 (h (o t))).toInt = (rp (h (o t))).toInt + (sl1 f).toInt := fun t ht => by
    rw [e2a (o t) (p1 t ht) (r1 t ht)]
    have := hru t ht
    exact l_add (by omega) (by omega)
  have RN : ∀ i, i ≤ R → (∀ t, t ≤ n → h (o t) ≠ i) → rp2 i = rp i := fun i hi hn => e2b i hi (fun c hc r e => by
    rcases rch c hc with ⟨_, t, ht, et⟩ | ⟨r2, _⟩
    · exact hn t ht (by rw [et]; exact e)
    · rw [r2] at r; exact nI01 r)
  have CP : ∀ t, 1 ≤ t → t ≤ n → (cp2 (o t)).toInt = (cp (o t)).toInt - (sl1 f).toInt := fun t h1 ht => by
    rw [(e3 (o t) (p1 t ht)).1 (r1 t ht)]
    have := hbd.2.1 (o t) (hle t h1 ht) (p1 t ht)
    exact l_sub (by omega) (by omega)
  have SL : ∀ c, 1 ≤ c → c ≤ C + R → upd rc (o n) (nI 1) c = nI 0 → (sl2 c).toInt = (sl1 c).toInt - (sl1 f).toInt := fun c h1 h2 h3 => by
    rw [e4 c h2 h3]
    have := hlk c h1 h2 h3
    exact l_sub (by omega) (by omega)
  have F1 : ∀ i c, 1 ≤ i → i ≤ k + 1 → 1 ≤ c → c ≤ C + R → (rp2 i).toInt + (cp2 c).toInt ≤ (ct (i * 31 + c)).toInt := fun i c i1 i2 c1 c2 => by
    by_cases hi : ∃ t, t ≤ n ∧ h (o t) = i
    · obtain ⟨t, ht, rfl⟩ := hi
      rw [RP t ht]
      rcases rch c c2 with ⟨r, u, hu, rfl⟩ | ⟨r, _⟩
      · have hu1 : 1 ≤ u := by
          rcases Nat.eq_zero_or_pos u with e | e
          · rw [e, o0] at c1; omega
          · exact e
        rw [CP u hu1 hu]
        have := hf.1 (h (o t)) (o u) i1 (by rw [if_neg (by omega)]; exact i2) c1 c2
        omega
      · rw [(e3 c c2).2 r]
        have := (hlk c c1 c2 r).2.2.2.2 t ht
        have := f4 c c1 c2 r
        omega
    · have hx : ∀ t, t ≤ n → h (o t) ≠ i := fun t ht e => hi ⟨t, ht, e⟩
      have hik : i ≤ k := by
        have := hx 0 (by omega)
        rw [o0, h0] at this; omega
      rw [RN i (by omega) hx]
      have hb := hf.1 i c i1 (by split <;> omega) c1 c2
      rcases rch c c2 with ⟨r, u, hu, rfl⟩ | ⟨r, _⟩
      · have hu1 : 1 ≤ u := by
          rcases Nat.eq_zero_or_pos u with e | e
          · rw [e, o0] at c1; omega
          · exact e
        rw [CP u hu1 hu]
        have := hd.1 (by omega)
        omega
      · rw [(e3 c c2).2 r]; exact hb
  have F2 : ∀ c, 1 ≤ c → c ≤ C + R → h c ≠ 0 → (rp2 (h c)).toInt + (cp2 c).toInt = (ct (h c * 31 + c)).toInt := fun c c1 c2 c3 => by
    have hb := hf.2.1 c c1 c2 c3
    rcases rch c c2 with ⟨r, u, hu, rfl⟩ | ⟨r, hr⟩
    · have hu1 : 1 ≤ u := by
        rcases Nat.eq_zero_or_pos u with e | e
        · rw [e, o0] at c1; omega
        · exact e
      rw [CP u hu1 hu, RP u hu]; omega
    · have hk1 := hm.1 c c1 c2
      rw [RN (h c) (by omega) (fun t ht e => by
        rcases Nat.eq_zero_or_pos t with e0 | e0
        · rw [e0, o0, h0] at e; omega
        · exact hr t ht (hm.2.1 (o t) c (hle t e0 ht) (p1 t ht) c1 c2 e (by rw [e]; exact c3))), (e3 c c2).2 r]
      exact hb
  refine ⟨⟨F1, F2, fun c c1 c2 => ?_, fun c c1 c2 c3 => ?_, fun i i1 i2 => ?_⟩, h0, by (try dsimp only); rw [if_neg (by omega)]; exact o0, fun t ht => ?_, fun t u ht hu e => ?_, fun c hc => ?_, fun t t1 t2 => ?_, fun t t1 t2 => ?_, fun _ c c1 c2 r => ?_, fun e => by omega⟩
  · have hb := hf.2.2.1 c c1 c2
    rcases rch c c2 with ⟨r, u, hu, rfl⟩ | ⟨r, _⟩
    · have hu1 : 1 ≤ u := by
        rcases Nat.eq_zero_or_pos u with e | e
        · rw [e, o0] at c1; omega
        · exact e
      rw [CP u hu1 hu]
      have := hd.1 (by omega)
      omega
    · rw [(e3 c c2).2 r]; exact hb
  · have hb := hf.2.2.2.1 c c1 c2 c3
    rcases rch c c2 with ⟨r, u, hu, rfl⟩ | ⟨r, _⟩
    · have := (hrow u hu).1; omega
    · rw [(e3 c c2).2 r]; exact hb
  · rw [RN i (by omega) (fun t ht e => by have := hrow t ht; omega)]
    exact hf.2.2.2.2 i (by split <;> omega) i2
  · (try dsimp only)
    by_cases e : t = n + 1
    · rw [if_pos e]; exact f2
    · rw [if_neg e]; exact p1 t (by omega)
  · have hnf : ∀ t, t ≤ n → o t ≠ f := fun t ht e => by
      have := r1 t ht; rw [e, f3] at this; exact nI01 this
    (try dsimp only at e)
    by_cases et : t = n + 1 <;> by_cases eu : u = n + 1
    · omega
    · rw [if_pos et, if_neg eu] at e; exact absurd e.symm (hnf u (by omega))
    · rw [if_neg et, if_pos eu] at e; exact absurd e (hnf t (by omega))
    · rw [if_neg et, if_neg eu] at e; exact p2 t u (by omega) (by omega) e
  · rcases rch c hc with ⟨r, t, ht, et⟩ | ⟨r, hr⟩
    · exact Or.inl ⟨r, t, by omega, by (try dsimp only); rw [if_neg (by omega)]; exact et⟩
    · refine Or.inr ⟨r, fun t ht => ?_⟩
      (try dsimp only)
      rw [if_neg (by omega)]; exact hr t (by omega)
  · (try dsimp only)
    rw [if_neg (by omega)]
    have := (hrow t (by omega)).1; omega
  · (try dsimp only)
    by_cases e : t = n + 1
    · rw [if_pos e]
      obtain ⟨u, hu, q1, q2⟩ := hd.2.2.2.1
      refine ⟨u, by omega, ?_, ?_⟩
      · rw [if_neg (by omega)]; exact q1
      · rw [if_neg (by omega), RP u hu, (e3 f f2).2 f3]; omega
    · rw [if_neg e]
      obtain ⟨u, hu, q1, q2⟩ := p5 t t1 (by omega)
      refine ⟨u, hu, ?_, ?_⟩
      · rw [if_neg (by omega), e1' (o t) (hle t t1 (by omega)) (p1 t (by omega)) (r1 t (by omega))]; exact q1
      · rw [if_neg (by omega), RP u (by omega), CP t t1 (by omega)]; omega
  · obtain ⟨q0, qa, qb, ⟨u, hu, q1, q2⟩, q3⟩ := hlk c c1 c2 r
    refine ⟨⟨u, by omega, ?_, ?_⟩, fun v hv => ?_⟩
    · (try dsimp only); rw [if_neg (by omega)]; exact q1
    · (try dsimp only); rw [if_neg (by omega), SL c c1 c2 r, RP u hu, (e3 c c2).2 r]; omega
    · (try dsimp only); rw [if_neg (by omega), SL c c1 c2 r, RP v (by omega), (e3 c c2).2 r]
      have := q3 v (by omega); omega
/-- holders are handed on: the column o t is not settled yet -/
def hQ (C R k : Nat) (ct rp cp : Nat → Int64) (h o : Nat → Nat) (t : Nat) (q : Nat → Nat) : Prop :=
  (∀ c, c ≤ C + R → c ≠ o t → q c ≤ k + 1) ∧ (∀ c d, c ≤ C + R → d ≤ C + R → c ≠ o t → d ≠ o t → q c = q d → q c ≠ 0 → c = d) ∧ (∀ i, 1 ≤ i → i ≤ k + 1 → ∃ c, c ≤ C + R ∧ c ≠ o t ∧ q c = i) ∧
  (∀ c, 1 ≤ c → c ≤ C + R → c ≠ o t → q c ≠ 0 → (rp (q c)).toInt + (cp c).toInt = (ct (q c * 31 + c)).toInt) ∧ (∀ c, 1 ≤ c → c ≤ C + R → c ≠ o t → q c = 0 → (cp c).toInt = 0) ∧ (∀ u, u < t → q (o u) = h (o u))
theorem hQ_first {C R k n : Nat} {ct rp cp sl : Nat → Int64} {cf rc : Nat → Int32} {h o : Nat → Nat} (hm : hM C R k h) (hf : hF C R (if n = 0 then k else k + 1) ct rp cp h) (hp : hP C R (k + 1) n ct rp cp sl cf rc h o) (hh : h (o n) = 0) : hQ C R k ct rp cp h o n h ∧ 1 ≤ n := by
  have hle := (hP_le hm hp).1
  obtain ⟨h0, o0, p1, p2, p3, p4, p5, p6, p7⟩ := hp
  have hn : 1 ≤ n := by
    rcases Nat.eq_zero_or_pos n with e | e
    · rw [e, o0, h0] at hh; omega
    · exact e
  refine ⟨⟨fun c hc _ => ?_, fun c d hc hd c1 d1 e e2 => ?_, fun i i1 i2 => ?_, fun c c1 c2 _ c3 => hf.2.1 c c1 c2 c3, fun c c1 c2 _ c3 => hf.2.2.2.1 c c1 c2 c3, fun u _ => rfl⟩, hn⟩
  · rcases Nat.eq_zero_or_pos c with e | e
    · rw [e, h0]; omega
    · have := hm.1 c e hc; omega
  · rcases Nat.eq_zero_or_pos c with a | a <;> rcases Nat.eq_zero_or_pos d with b | b
    · omega
    · have := hm.1 d b hd; rw [a, h0] at e; omega
    · have := hm.1 c a hc; rw [b, h0] at e; omega
    · exact hm.2.1 c d a hc b hd e e2
  · by_cases e : i = k + 1
    · exact ⟨0, by omega, by have := hle n hn (Nat.le_refl _); omega, by rw [h0, e]⟩
    · obtain ⟨c, c1, c2, c3⟩ := hm.2.2 i i1 (by omega)
      exact ⟨c, c2, fun e => by rw [e, hh] at c3; omega, c3⟩
theorem hQ_step {C R k n t u : Nat} {ct rp cp sl : Nat → Int64} {cf rc : Nat → Int32} {h o q : Nat → Nat} (hm : hM C R k h) (hp : hP C R (k + 1) n ct rp cp sl cf rc h o) (ht : t ≤ n) (hu : u < t) (htg : (rp (h (o u))).toInt + (cp (o t)).toInt = (ct (h (o u) * 31 + o t)).toInt) (hq : hQ C R k ct rp cp h o t q) :
    hQ C R k ct rp cp h o u (fun c => if c = o t then q (o u) else q c) := by
  have hle := (hP_le hm hp).1
  obtain ⟨h0, o0, p1, p2, p3, p4, p5, p6, p7⟩ := hp
  obtain ⟨q1, q2, q3, q4, q5, q6⟩ := hq
  have hut : o u ≠ o t := fun e => by have := p2 u t (by omega) ht e; omega
  have hqu : q (o u) = h (o u) := q6 u hu
  have hne : h (o u) ≠ 0 := by
    rcases Nat.eq_zero_or_pos u with e | e
    · rw [e, o0, h0]; omega
    · exact p4 u e (by omega)
  refine ⟨fun c c1 c2 => ?_, fun c d c1 d1 c2 d2 e e2 => ?_, fun i i1 i2 => ?_, fun c c1 c2 c3 c4 => ?_, fun c c1 c2 c3 c4 => ?_, fun v hv => ?_⟩
  · (try dsimp only)
    by_cases e : c = o t
    · rw [if_pos e]; exact q1 (o u) (p1 u (by omega)) hut
    · rw [if_neg e]; exact q1 c c1 e
  · (try dsimp only at e e2)
    by_cases a : c = o t <;> by_cases b : d = o t
    · rw [a, b]
    · rw [if_pos a, if_neg b] at e; rw [if_pos a] at e2
      exact absurd (q2 (o u) d (p1 u (by omega)) d1 hut b e e2).symm d2
    · rw [if_neg a, if_pos b] at e; rw [if_neg a] at e2
      exact absurd (q2 c (o u) c1 (p1 u (by omega)) a hut e e2) c2
    · rw [if_neg a, if_neg b] at e; rw [if_neg a] at e2
      exact q2 c d c1 d1 a b e e2
  · obtain ⟨c, c1, c2, c3⟩ := q3 i i1 i2
    by_cases e : c = o u
    · exact ⟨o t, p1 t ht, fun e2 => hut e2.symm, by (try dsimp only); rw [if_pos rfl, ← e]; exact c3⟩
    · exact ⟨c, c1, e, by (try dsimp only); rw [if_neg c2]; exact c3⟩
  · (try dsimp only at c4 ⊢)
    by_cases e : c = o t
    · rw [if_pos e, hqu, e]; exact htg
    · rw [if_neg e] at c4 ⊢; exact q4 c c1 c2 e c4
  · (try dsimp only at c4)
    by_cases e : c = o t
    · rw [if_pos e, hqu] at c4; exact absurd c4 hne
    · rw [if_neg e] at c4; exact q5 c c1 c2 e c4
  · (try dsimp only)
    rw [if_neg (fun e => by have := p2 v t (by omega) ht e; omega)]
    exact q6 v (by omega)
theorem hQ_last {C R k : Nat} {ct rp cp : Nat → Int64} {h o q : Nat → Nat} (o0 : o 0 = 0) (hf : hF C R (k + 1) ct rp cp h) (hq : hQ C R k ct rp cp h o 0 q) : hM C R (k + 1) q ∧ hF C R (k + 1) ct rp cp q := by
  obtain ⟨q1, q2, q3, q4, q5, q6⟩ := hq
  rw [o0] at q1 q2 q3 q4 q5
  refine ⟨⟨fun c c1 c2 => q1 c c2 (by omega), fun c d c1 c2 d1 d2 e e2 => q2 c d c2 d2 (by omega) (by omega) e e2, fun i i1 i2 => ?_⟩, ⟨hf.1, fun c c1 c2 c3 => q4 c c1 c2 (by omega) c3, hf.2.2.1, fun c c1 c2 c3 => q5 c c1 c2 (by omega) c3, hf.2.2.2.2⟩⟩
  obtain ⟨c, c1, c2, c3⟩ := q3 i i1 i2
  exact ⟨c, by omega, c1, c3⟩
/-- what the assignment comes to: each row holds a column, at prices that show that no way is cheaper -/
def hO (C R : Nat) (ct : Nat → Int64) (hd : Nat → Int32) : Prop := ∃ (rp cp : Nat → Int64) (h : Nat → Nat), (∀ c, c ≤ C + R → hd c = nI (h c)) ∧ hM C R R h ∧ hF C R R ct rp cp h
-- sums
def sgm (f : Nat → Int) : Nat → Int
  | 0 => 0
  | n + 1 => sgm f n + f n
theorem sgm_congr {f h : Nat → Int} : ∀ {n : Nat}, (∀ i, i < n → f i = h i) → sgm f n = sgm h n := by
  intro n
  induction n with
  | zero => intro _; rfl
  | succ n ih => intro e; simp only [sgm]; rw [ih (fun i hi => e i (by omega)), e n (by omega)]
theorem sgm_add (f h : Nat → Int) : ∀ n, sgm (fun i => f i + h i) n = sgm f n + sgm h n := by
  intro n
  induction n with
  | zero => rfl
  | succ n ih => simp only [sgm]; rw [ih]; omega
theorem sgm_le {f h : Nat → Int} : ∀ {n : Nat}, (∀ i, i < n → f i ≤ h i) → sgm f n ≤ sgm h n := by
  intro n
  induction n with
  | zero => intro _; exact Int.le_refl _
  | succ n ih =>
    intro e; simp only [sgm]
    have := ih (fun i hi => e i (by omega))
    have := e n (by omega)
    omega
theorem sgm_0 : ∀ n, sgm (fun _ => 0) n = 0 := by
  intro n
  induction n with
  | zero => rfl
  | succ n ih => simp only [sgm, ih]; rfl
theorem sgm_one (f : Nat → Int) (a : Nat) : ∀ n, sgm (fun c => if c = a then f c else 0) n = if a < n then f a else 0 := by
  intro n
  induction n with
  | zero => rfl
  | succ n ih =>
    simp only [sgm, ih]
    by_cases e : n = a
    · subst e; rw [if_neg (Nat.lt_irrefl _), if_pos rfl, if_pos (by omega)]; omega
    · rw [if_neg e]
      by_cases h : a < n
      · rw [if_pos h, if_pos (by omega)]; omega
      · rw [if_neg h, if_neg (by omega)]; rfl
/-- a sum over what is hit, once each -/
theorem sgm_im (f : Nat → Int) (N : Nat) (τ : Nat → Nat) : ∀ R, (∀ i, i < R → τ i < N) → (∀ i j, i < R → j < R → τ i = τ j → i = j) → sgm (fun i => f (τ i)) R = sgm (fun c => if dc (∃ i, i < R ∧ τ i = c) = true then f c else 0) N := by
  intro R
  induction R with
  | zero =>
    intro _ _
    rw [sgm_congr (h := fun _ => 0) (fun c _ => if_neg (fun h => by obtain ⟨i, hi, _⟩ := dc_t.mp h; omega)), sgm_0]; rfl
  | succ R ih =>
    intro h1 h2
    have ih := ih (fun i hi => h1 i (by omega)) (fun i j hi hj => h2 i j (by omega) (by omega))
    have e : sgm (fun c => if dc (∃ i, i < R + 1 ∧ τ i = c) = true then f c else 0) N = sgm (fun c => (if dc (∃ i, i < R ∧ τ i = c) = true then f c else 0) + (if c = τ R then f c else 0)) N := by
      refine sgm_congr (fun c _ => ?_)
      by_cases e : c = τ R
      · have hn : ¬ dc (∃ i, i < R ∧ τ i = c) = true := fun h => by
          obtain ⟨i, hi, h3⟩ := dc_t.mp h
          have := h2 i R (by omega) (by omega) (by rw [h3, e]); omega
        rw [if_pos (dc_t.mpr ⟨R, by omega, e.symm⟩), if_neg hn, if_pos e]; omega
      · rw [if_neg e]
        by_cases h : dc (∃ i, i < R ∧ τ i = c) = true
        · obtain ⟨i, hi, h3⟩ := dc_t.mp h
          rw [if_pos h, if_pos (dc_t.mpr ⟨i, by omega, h3⟩)]; omega
        · rw [if_neg h, if_neg (fun h4 => by
            obtain ⟨i, hi, h3⟩ := dc_t.mp h4
            by_cases ei : i = R
            · rw [ei] at h3; exact e h3.symm
            · exact h (dc_t.mpr ⟨i, by omega, h3⟩))]; rfl
    rw [e, sgm_add, ← ih, sgm_one, if_pos (h1 R (by omega))]
    rfl
/-- no way is cheaper -/
theorem hO_least {C R : Nat} {ct rp cp : Nat → Int64} {h : Nat → Nat} (hm : hM C R R h) (hf : hF C R R ct rp cp h) (m : Nat → Nat) (hmm : ∀ i, i < R → 1 ≤ m i ∧ m i ≤ C + R ∧ h (m i) = i + 1)
    (s : Nat → Nat) (s1 : ∀ i, i < R → 1 ≤ s i ∧ s i ≤ C + R) (s2 : ∀ i j, i < R → j < R → s i = s j → i = j) :
    sgm (fun i => (ct ((i + 1) * 31 + m i)).toInt) R ≤ sgm (fun i => (ct ((i + 1) * 31 + s i)).toInt) R := by
  have e1 : sgm (fun i => (ct ((i + 1) * 31 + m i)).toInt) R = sgm (fun i => (rp (i + 1)).toInt) R + sgm (fun i => (cp (m i)).toInt) R := by
    rw [← sgm_add]
    refine sgm_congr (fun i hi => ?_)
    obtain ⟨a, b, c⟩ := hmm i hi
    have := hf.2.1 (m i) a b (by omega)
    rw [c] at this; exact this.symm
  have e2 : sgm (fun i => (rp (i + 1)).toInt) R + sgm (fun i => (cp (s i)).toInt) R ≤ sgm (fun i => (ct ((i + 1) * 31 + s i)).toInt) R := by
    rw [← sgm_add]
    refine sgm_le (fun i hi => ?_)
    obtain ⟨a, b⟩ := s1 i hi
    exact hf.1 (i + 1) (s i) (by omega) (by omega) a b
  have m2 : ∀ i j, i < R → j < R → m i = m j → i = j := fun i j hi hj e => by
    have a := (hmm i hi).2.2
    have b := (hmm j hj).2.2
    rw [e] at a; omega
  have im1 := sgm_im (fun c => (cp (c + 1)).toInt) (C + R) (fun i => m i - 1) R (fun i hi => by have := hmm i hi; (try dsimp only); omega) (fun i j hi hj e => by
    have a := hmm i hi
    have b := hmm j hj
    (try dsimp only at e)
    exact m2 i j hi hj (by omega))
  have im2 := sgm_im (fun c => (cp (c + 1)).toInt) (C + R) (fun i => s i - 1) R (fun i hi => by have := s1 i hi; (try dsimp only); omega) (fun i j hi hj e => by
    have a := s1 i hi
    have b := s1 j hj
    (try dsimp only at e)
    exact s2 i j hi hj (by omega))
  have c1 : sgm (fun i => (cp (m i)).toInt) R = sgm (fun i => (cp (m i - 1 + 1)).toInt) R := sgm_congr (fun i hi => by
    have := hmm i hi
    rw [show m i - 1 + 1 = m i by omega])
  have c2 : sgm (fun i => (cp (s i)).toInt) R = sgm (fun i => (cp (s i - 1 + 1)).toInt) R := sgm_congr (fun i hi => by
    have := s1 i hi
    rw [show s i - 1 + 1 = s i by omega])
  have fin : sgm (fun c => if dc (∃ i, i < R ∧ m i - 1 = c) = true then (cp (c + 1)).toInt else 0) (C + R) ≤ sgm (fun c => if dc (∃ i, i < R ∧ s i - 1 = c) = true then (cp (c + 1)).toInt else 0) (C + R) := by
    refine sgm_le (fun c hc => ?_)
    have hneg := hf.2.2.1 (c + 1) (by omega) (by omega)
    by_cases a : dc (∃ i, i < R ∧ m i - 1 = c) = true
    · rw [if_pos a]
      split <;> omega
    · rw [if_neg a]
      have hz : (cp (c + 1)).toInt = 0 := by
        refine hf.2.2.2.1 (c + 1) (by omega) (by omega) ?_
        refine Classical.byContradiction (fun hne => a (dc_t.mpr ?_))
        have hb := hm.1 (c + 1) (by omega) (by omega)
        refine ⟨h (c + 1) - 1, by omega, ?_⟩
        obtain ⟨x, y, z⟩ := hmm (h (c + 1) - 1) (by omega)
        have := hm.2.1 _ _ x y (by omega) (by omega) (show h (m (h (c + 1) - 1)) = h (c + 1) by rw [z]; omega) (by omega)
        omega
      rw [hz]; split <;> omega
  rw [e1]
  refine Int.le_trans ?_ e2
  have : sgm (fun i => (cp (m i)).toInt) R ≤ sgm (fun i => (cp (s i)).toInt) R := by
    rw [c1, c2, im1, im2]; exact fin
  omega

