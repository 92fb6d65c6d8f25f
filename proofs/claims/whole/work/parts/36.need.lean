/-! Bits of an int; what is needed to tell things apart. -/
-- how many
theorem cnt_congr {f h : Nat → Bool} : ∀ n, (∀ i, i < n → f i = h i) → cnt f n = cnt h n := by
  intro n
  induction n with
  | zero => intro _; rfl
  | succ n ih => intro e; simp only [cnt]; rw [ih (fun i hi => e i (by omega)), e n (by omega)]
theorem cnt_or (f h : Nat → Bool) : ∀ n, cnt (fun i => f i || h i) n ≤ cnt f n + cnt h n := by
  intro n
  induction n with
  | zero => exact Nat.le_refl _
  | succ n ih =>
    simp only [cnt]
    by_cases e1 : f n = true <;> by_cases e2 : h n = true
    · rw [if_pos (by rw [e1]; rfl), if_pos e1, if_pos e2]; omega
    · rw [if_pos (by rw [e1]; rfl), if_pos e1, if_neg e2]; omega
    · rw [if_pos (by rw [e2]; simp), if_neg e1, if_pos e2]; omega
    · rw [if_neg (by simp only [Bool.not_eq_true] at e1 e2; rw [e1, e2]; decide), if_neg e1, if_neg e2]; omega
theorem cnt_pos {f : Nat → Bool} : ∀ {n i : Nat}, i < n → f i = true → 1 ≤ cnt f n := by
  intro n
  induction n with
  | zero => intro i h; omega
  | succ n ih =>
    intro i hi hf
    simp only [cnt]
    by_cases e : i = n
    · subst e; rw [if_pos hf]; omega
    · have := ih (show i < n by omega) hf; omega
theorem cnt_two {f : Nat → Bool} : ∀ {n i j : Nat}, i < j → j < n → f i = true → f j = true → 2 ≤ cnt f n := by
  intro n
  induction n with
  | zero => intro i j _ h; omega
  | succ n ih =>
    intro i j hij hj hi hf
    simp only [cnt]
    by_cases e : j = n
    · subst e; rw [if_pos hf]
      have := cnt_pos (n := j) hij hi; omega
    · have := ih hij (show j < n by omega) hi hf; omega
theorem cnt_none {f : Nat → Bool} : ∀ n, (∀ i, i < n → f i = false) → cnt f n = 0 := by
  intro n
  induction n with
  | zero => intro _; rfl
  | succ n ih => intro e; simp only [cnt]; rw [ih (fun i hi => e i (by omega)), e n (by omega)]; rfl
/-- k questions are enough for some things, whose answers are B -/
def nd (B : Nat → Nat → Int) (Q : Nat) : Nat → (Nat → Prop) → Prop
  | 0, S => ∀ x y, S x → S y → ∀ q, q < Q → B x q = B y q
  | k + 1, S => (∀ x y, S x → S y → ∀ q, q < Q → B x q = B y q) ∨ ∃ q, q < Q ∧ ∀ x, S x → nd B Q k (fun y => S y ∧ B y q = B x q)
/-- just k are needed -/
def isNd (B : Nat → Nat → Int) (Q k : Nat) (S : Nat → Prop) : Prop := nd B Q k S ∧ ∀ j, j < k → ¬ nd B Q j S
theorem nd_rep {B C : Nat → Nat → Int} {Q : Nat} (f : Nat → Nat) : ∀ {k : Nat} {S T : Nat → Prop}, (∀ x, S x → T (f x) ∧ ∀ q, q < Q → B x q = C (f x) q) → nd C Q k T → nd B Q k S := by
  intro k
  induction k with
  | zero =>
    intro S T h hn x y hx hy q hq
    rw [(h x hx).2 q hq, (h y hy).2 q hq]
    exact hn _ _ (h x hx).1 (h y hy).1 q hq
  | succ k ih =>
    intro S T h hn
    rcases hn with hn | ⟨q, hq, hn⟩
    · refine Or.inl (fun x y hx hy q hq => ?_)
      rw [(h x hx).2 q hq, (h y hy).2 q hq]
      exact hn _ _ (h x hx).1 (h y hy).1 q hq
    · refine Or.inr ⟨q, hq, fun x hx => ih (T := fun y => T y ∧ C y q = C (f x) q) (fun y hy => ⟨⟨(h y hy.1).1, ?_⟩, (h y hy.1).2⟩) (hn (f x) (h x hx).1)⟩
      rw [← (h y hy.1).2 q hq, ← (h x hx).2 q hq]; exact hy.2
theorem nd_sub {B : Nat → Nat → Int} {Q k : Nat} {S T : Nat → Prop} (h : ∀ x, S x → T x) (hn : nd B Q k T) : nd B Q k S := nd_rep (fun x => x) (fun x hx => ⟨h x hx, fun _ _ => rfl⟩) hn
theorem nd_up {B : Nat → Nat → Int} {Q : Nat} : ∀ {k : Nat} {S : Nat → Prop}, nd B Q k S → nd B Q (k + 1) S := by
  intro k
  induction k with
  | zero => intro S h; exact Or.inl h
  | succ k ih =>
    intro S h
    rcases h with h | ⟨q, hq, h⟩
    · exact Or.inl h
    · exact Or.inr ⟨q, hq, fun x hx => ih (h x hx)⟩
theorem nd_le {B : Nat → Nat → Int} {Q j k : Nat} {S : Nat → Prop} (h : j ≤ k) (hn : nd B Q j S) : nd B Q k S := by
  induction k with
  | zero => obtain rfl : j = 0 := by omega
            exact hn
  | succ k ih =>
    by_cases e : j = k + 1
    · rw [← e]; exact hn
    · exact nd_up (ih (by omega))
theorem isNd_uni {B : Nat → Nat → Int} {Q j k : Nat} {S : Nat → Prop} (h1 : isNd B Q j S) (h2 : isNd B Q k S) : j = k := by
  rcases Nat.lt_trichotomy j k with h | h | h
  · exact absurd h1.1 (h2.2 j h)
  · exact h
  · exact absurd h2.1 (h1.2 k h)
/-- both ways: as much is needed -/
theorem isNd_rep {B C : Nat → Nat → Int} {Q k : Nat} {S T : Nat → Prop} (f h : Nat → Nat) (hf : ∀ x, S x → T (f x) ∧ ∀ q, q < Q → B x q = C (f x) q) (hh : ∀ x, T x → S (h x) ∧ ∀ q, q < Q → C x q = B (h x) q) (hn : isNd C Q k T) : isNd B Q k S :=
  ⟨nd_rep f hf hn.1, fun j hj hx => hn.2 j hj (nd_rep h hh hx)⟩
/-- how many there are of a set of small numbers -/
noncomputable def crd (S : Nat → Prop) : Nat := cnt (fun i => dc (S i)) 32
theorem crd_mono {S T : Nat → Prop} (h : ∀ i, i < 32 → S i → T i) : crd S ≤ crd T := cnt_mono 32 (fun i hi hs => dc_t.mpr (h i hi (dc_t.mp hs)))
theorem crd_lt {S T : Nat → Prop} (h : ∀ i, i < 32 → S i → T i) {x : Nat} (hx : x < 32) (h1 : ¬ S x) (h2 : T x) : crd S < crd T :=
  cnt_lt 32 (fun i hi hs => dc_t.mpr (h i hi (dc_t.mp hs))) ⟨x, hx, dc_f.mpr h1, dc_t.mpr h2⟩
theorem crd_one {S : Nat → Prop} (hs : crd S ≤ 1) {x y : Nat} (hx : x < 32) (hy : y < 32) (h1 : S x) (h2 : S y) : x = y := by
  rcases Nat.lt_trichotomy x y with h | h | h
  · have := cnt_two (f := fun i => dc (S i)) h hy (dc_t.mpr h1) (dc_t.mpr h2); unfold crd at hs; omega
  · exact h
  · have := cnt_two (f := fun i => dc (S i)) h hx (dc_t.mpr h2) (dc_t.mpr h1); unfold crd at hs; omega
/-- one question less than there are things is enough, if no two are like -/
theorem nd_upper {B : Nat → Nat → Int} {Q : Nat} : ∀ {n : Nat} {S : Nat → Prop}, (∀ x, S x → x < 32) → crd S ≤ n + 1 → nd B Q n S := by
  intro n
  induction n with
  | zero =>
    intro S hb hc x y hx hy q hq
    rw [crd_one hc (hb x hx) (hb y hy) hx hy]
  | succ n ih =>
    intro S hb hc
    by_cases h0 : ∀ x y, S x → S y → ∀ q, q < Q → B x q = B y q
    · exact Or.inl h0
    · obtain ⟨x, hx⟩ := Classical.not_forall.mp h0
      obtain ⟨y, hy⟩ := Classical.not_forall.mp hx
      obtain ⟨sx, h1⟩ := Classical.not_imp.mp hy
      obtain ⟨sy, h2⟩ := Classical.not_imp.mp h1
      obtain ⟨q, h3⟩ := Classical.not_forall.mp h2
      obtain ⟨hq, h4⟩ := Classical.not_imp.mp h3
      refine Or.inr ⟨q, hq, fun z hz => ih (fun u hu => hb u hu.1) ?_⟩
      by_cases e : B x q = B z q
      · have := crd_lt (S := fun u => S u ∧ B u q = B z q) (T := S) (fun i _ h => h.1) (hb y sy) (fun h => h4 (by rw [e, h.2])) sy
        omega
      · have := crd_lt (S := fun u => S u ∧ B u q = B z q) (T := S) (fun i _ h => h.1) (hb x sx) (fun h => e h.2) sx
        omega
/-- into at most n classes a question parts a set, and so any part of it -/
def pps (B : Nat → Nat → Int) (S : Nat → Prop) (q n : Nat) : Prop := ∀ (T : Nat → Prop) (M : Nat), (∀ x, T x → S x) → (∀ x, S x → crd (fun y => T y ∧ B y q = B x q) ≤ M) → crd T ≤ n * M
theorem nd_lower {B : Nat → Nat → Int} {Q w : Nat} {S : Nat → Prop} (hb : ∀ x, S x → x < 32) (hd : ∀ x y, S x → S y → (∀ q, q < Q → B x q = B y q) → x = y) (hw : 1 ≤ w) (hp : ∀ q, q < Q → ∃ n, n ≤ w ∧ pps B S q n) :
    ∀ {j : Nat} {T : Nat → Prop}, (∀ x, T x → S x) → nd B Q j T → crd T ≤ w ^ j := by
  have h1 : ∀ T : Nat → Prop, (∀ x, T x → S x) → (∀ x y, T x → T y → ∀ q, q < Q → B x q = B y q) → crd T ≤ 1 := fun T hT h => by
    refine Classical.byContradiction (fun hc => ?_)
    have hex : ∃ i, i < 32 ∧ T i := by
      refine Classical.byContradiction (fun hn => ?_)
      have := cnt_none (f := fun i => dc (T i)) 32 (fun i hi => dc_f.mpr (fun ht => hn ⟨i, hi, ht⟩))
      unfold crd at hc; omega
    obtain ⟨i, hi, ti⟩ := hex
    have h2 : crd T ≤ crd (fun y => y = i) := crd_mono (fun j _ tj => hd j i (hT j tj) (hT i ti) (h j i tj ti))
    have h3 : crd (fun y => y = i) ≤ 1 := by
      have : ∀ n, cnt (fun y => dc (y = i)) n ≤ 1 ∧ (n ≤ i → cnt (fun y => dc (y = i)) n = 0) := by
        intro n
        induction n with
        | zero => exact ⟨Nat.zero_le _, fun _ => rfl⟩
        | succ n ih =>
          simp only [cnt]
          by_cases e : n = i
          · rw [if_pos (dc_t.mpr e)]; omega
          · rw [if_neg (fun h => e (dc_t.mp h))]; omega
      exact (this 32).1
    omega
  intro j
  induction j with
  | zero => intro T hT hn; exact h1 T hT hn
  | succ j ih =>
    intro T hT hn
    have hpow : 1 ≤ w ^ (j + 1) := Nat.one_le_pow _ _ hw
    rcases hn with hn | ⟨q, hq, hn⟩
    · exact Nat.le_trans (h1 T hT hn) hpow
    · obtain ⟨n, hnw, hpp⟩ := hp q hq
      have := hpp T (w ^ j) hT (fun x hx => by
        by_cases hy : ∃ y, T y ∧ B y q = B x q
        · obtain ⟨y, ty, ey⟩ := hy
          refine Nat.le_trans (crd_mono (T := fun z => T z ∧ B z q = B y q) (fun i _ h => ⟨h.1, by rw [ey]; exact h.2⟩)) (ih (fun z hz => hT z hz.1) (hn y ty))
        · have : crd (fun y => T y ∧ B y q = B x q) = 0 := cnt_none 32 (fun i _ => dc_f.mpr (fun h => hy ⟨i, h⟩))
          omega)
      rw [Nat.pow_succ, Nat.mul_comm]
      exact Nat.le_trans this (Nat.mul_le_mul_right _ hnw)
/-- a question parts a set -/
def prt (B : Nat → Nat → Int) (S : Nat → Prop) (q : Nat) : Prop := ∃ x y, S x ∧ S y ∧ B x q ≠ B y q
def nq (B : Nat → Nat → Int) (Q k : Nat) (S : Nat → Prop) (q : Nat) : Prop := ∀ x, S x → nd B Q k (fun y => S y ∧ B y q = B x q)
/-- no fewer are needed, if by no question that parts the set fewer are -/
theorem nd_min {B : Nat → Nat → Int} {Q v : Nat} {S : Nat → Prop} (h0 : ¬ nd B Q 0 S) (hne : ∃ x, S x) (h : ∀ q, q < Q → prt B S q → ∀ k, k + 1 < v → ¬ nq B Q k S q) : ∀ j, j < v → ¬ nd B Q j S := by
  intro j
  induction j with
  | zero => intro _; exact h0
  | succ k ih =>
    intro hj hn
    rcases hn with hn | ⟨q, hq, hn⟩
    · exact h0 hn
    · by_cases hp : prt B S q
      · exact h q hq hp k hj hn
      · obtain ⟨x, hx⟩ := hne
        refine ih (by omega) (nd_sub (fun y hy => ⟨hy, ?_⟩) (hn x hx))
        exact Classical.byContradiction (fun e => hp ⟨y, x, hy, hx, e⟩)
/-- classes of a question that parts a set are smaller -/
theorem prt_lt {B : Nat → Nat → Int} {S : Nat → Prop} {q : Nat} (hb : ∀ x, S x → x < 32) (hp : prt B S q) (x : Nat) : crd (fun y => S y ∧ B y q = B x q) < crd S := by
  obtain ⟨u, v, su, sv, e⟩ := hp
  by_cases h : B u q = B x q
  · exact crd_lt (fun i _ h => h.1) (hb v sv) (fun h2 => e (by rw [h, h2.2])) sv
  · exact crd_lt (fun i _ h => h.1) (hb u su) (fun h2 => h h2.2) su

