/-! What a change of some cells leaves as it was. -/
theorem fr_A : (∀ (g : sm_G) (k : Nat) (f : Nat → Int32) (q : Int32), okQ (gA g k f) q = okQ g q) ∧ (∀ (g : sm_G) (k : Nat) (f : Nat → Int32) (q : Int32), okR (gA g k f) q = okR g q) ∧ (∀ (g : sm_G) (k : Nat) (f : Nat → Int32) (q : Int32), okT (gA g k f) q = okT g q) ∧ (∀ (g : sm_G) (k : Nat) (f : Nat → Int32) (q : Int32), okC (gA g k f) q = okC g q) ∧
  (∀ (g : sm_G) (k : Nat) (f : Nat → Int32), zQ (gA g k f) = zQ g) ∧ (∀ (g : sm_G) (k : Nat) (f : Nat → Int32), zR (gA g k f) = zR g) ∧ (∀ (g : sm_G) (k : Nat) (f : Nat → Int32), zT (gA g k f) = zT g) ∧ (∀ (g : sm_G) (k : Nat) (f : Nat → Int32), zO (gA g k f) = zO g) ∧ (∀ (g : sm_G) (k : Nat) (f : Nat → Int32), zC (gA g k f) = zC g) ∧
  (∀ (g : sm_G) (k : Nat) (f : Nat → Int32) (p : Nat) (x q : Int32), p + 1 ≠ k → p + 2 ≠ k → aC (gA g k f) p x q = aC g p x q) ∧ (∀ (g : sm_G) (k : Nat) (f : Nat → Int32) (p x q : Nat), p + 1 ≠ k → p + 2 ≠ k → anC (gA g k f) p x q = anC g p x q) ∧
  (∀ (g : sm_G) (k : Nat) (f : Nat → Int32), 2 ≠ k → 3 ≠ k → wQ (gA g k f) = wQ g) ∧ (∀ (g : sm_G) (k : Nat) (f : Nat → Int32) (p : Nat), p + 1 ≠ k → wL (gA g k f) p = wL g p) ∧ (∀ (g : sm_G) (k : Nat) (f : Nat → Int32) (t : Int32), 23 ≠ k → hereC (gA g k f) t = hereC g t) ∧
  (∀ (g : sm_G) (k : Nat) (f : Nat → Int32) (q : Nat) (a b : Int32), 2 ≠ k → 3 ≠ k → agC (gA g k f) q a b = agC g q a b) ∧ (∀ (g : sm_G) (k : Nat) (f : Nat → Int32) (r t q : Nat), 2 ≠ k → 3 ≠ k → 7 ≠ k → 8 ≠ k → 10 ≠ k → 11 ≠ k → clC (gA g k f) r t q = clC g r t q) ∧ (∀ (g : sm_G) (k : Nat) (f : Nat → Int32) (r t : Nat), 2 ≠ k → 3 ≠ k → 7 ≠ k → 8 ≠ k → 10 ≠ k → 11 ≠ k → fitC (gA g k f) r t = fitC g r t) ∧
  (∀ (g : sm_G) (k : Nat) (f : Nat → Int32) (t q : Nat) (a : Int32) (n : Nat), 23 ≠ k → 10 ≠ k → 11 ≠ k → hoC (gA g k f) t q a n = hoC g t q a n) := by
  have hA : ∀ (g : sm_G) (k : Nat) (f : Nat → Int32) (p x q : Nat), p + 1 ≠ k → p + 2 ≠ k → anC (gA g k f) p x q = anC g p x q := fun g k f p x q h1 h2 => by simp only [anC, rA_gA, if_neg h1, if_neg h2]
  have hg : ∀ (g : sm_G) (k : Nat) (f : Nat → Int32) (q : Nat) (a b : Int32), 2 ≠ k → 3 ≠ k → agC (gA g k f) q a b = agC g q a b := fun g k f q a b h1 h2 => by simp only [agC, rA_gA, rL_gA, if_neg h1, if_neg h2]
  have hc : ∀ (g : sm_G) (k : Nat) (f : Nat → Int32) (r t q : Nat), 2 ≠ k → 3 ≠ k → 7 ≠ k → 8 ≠ k → 10 ≠ k → 11 ≠ k → clC (gA g k f) r t q = clC g r t q := fun g k f r t q h1 h2 h3 h4 h5 h6 => by
    simp only [clC]; rw [hA g k f 6 r q h3 h4, hA g k f 9 t q h5 h6, hg g k f _ _ _ h1 h2]
  refine ⟨fun _ _ _ _ => rfl, fun _ _ _ _ => rfl, fun _ _ _ _ => rfl, fun _ _ _ _ => rfl, fun _ _ _ => rfl, fun _ _ _ => rfl, fun _ _ _ => rfl, fun _ _ _ => rfl, fun _ _ _ => rfl, fun g k f p x q h1 h2 => ?_, hA, fun g k f h1 h2 => ?_, fun g k f p h => ?_, fun g k f t h => ?_, hg, hc, fun g k f r t h1 h2 h3 h4 h5 h6 => ?_, fun g k f t q a n h1 h2 h3 => ?_⟩
  · simp only [aC, rA_gA, if_neg h1, if_neg h2]
  · simp only [wQ, rA_gA, if_neg h1, if_neg h2]; rfl
  · simp only [wL, rA_gA, if_neg h]; rfl
  · simp only [hereC, rA_gA, if_neg h]; rfl
  · simp only [fitC, hc g k f _ _ _ h1 h2 h3 h4 h5 h6]; rfl
  · induction n with
    | zero => rfl
    | succ n ih => simp only [hoC, ih, rA_gA, if_neg h1, hA g k f 9 _ _ h2 h3]
theorem fr_L : (∀ (g : sm_G) (k : Nat) (f : Nat → Int64) (q : Int32), okQ (gL g k f) q = okQ g q) ∧ (∀ (g : sm_G) (k : Nat) (f : Nat → Int64) (q : Int32), okR (gL g k f) q = okR g q) ∧ (∀ (g : sm_G) (k : Nat) (f : Nat → Int64) (q : Int32), okT (gL g k f) q = okT g q) ∧ (∀ (g : sm_G) (k : Nat) (f : Nat → Int64) (q : Int32), okC (gL g k f) q = okC g q) ∧
  (∀ (g : sm_G) (k : Nat) (f : Nat → Int64), zQ (gL g k f) = zQ g) ∧ (∀ (g : sm_G) (k : Nat) (f : Nat → Int64), zR (gL g k f) = zR g) ∧ (∀ (g : sm_G) (k : Nat) (f : Nat → Int64), zT (gL g k f) = zT g) ∧ (∀ (g : sm_G) (k : Nat) (f : Nat → Int64), zO (gL g k f) = zO g) ∧ (∀ (g : sm_G) (k : Nat) (f : Nat → Int64), zC (gL g k f) = zC g) ∧
  (∀ (g : sm_G) (k : Nat) (f : Nat → Int64) (p : Nat) (x q : Int32), aC (gL g k f) p x q = aC g p x q) ∧ (∀ (g : sm_G) (k : Nat) (f : Nat → Int64) (p x q : Nat), anC (gL g k f) p x q = anC g p x q) ∧
  (∀ (g : sm_G) (k : Nat) (f : Nat → Int64), wQ (gL g k f) = wQ g) ∧ (∀ (g : sm_G) (k : Nat) (f : Nat → Int64) (p : Nat), wL (gL g k f) p = wL g p) ∧ (∀ (g : sm_G) (k : Nat) (f : Nat → Int64) (t : Int32), hereC (gL g k f) t = hereC g t) ∧
  (∀ (g : sm_G) (k : Nat) (f : Nat → Int64) (q : Nat) (a b : Int32), 5 ≠ k → agC (gL g k f) q a b = agC g q a b) ∧ (∀ (g : sm_G) (k : Nat) (f : Nat → Int64) (r t q : Nat), 5 ≠ k → clC (gL g k f) r t q = clC g r t q) ∧ (∀ (g : sm_G) (k : Nat) (f : Nat → Int64) (r t : Nat), 5 ≠ k → fitC (gL g k f) r t = fitC g r t) ∧
  (∀ (g : sm_G) (k : Nat) (f : Nat → Int64) (t q : Nat) (a : Int32) (n : Nat), hoC (gL g k f) t q a n = hoC g t q a n) := by
  have hg : ∀ (g : sm_G) (k : Nat) (f : Nat → Int64) (q : Nat) (a b : Int32), 5 ≠ k → agC (gL g k f) q a b = agC g q a b := fun g k f q a b h1 => by simp only [agC, rL_gL, rA_gL, if_neg h1]
  have hc : ∀ (g : sm_G) (k : Nat) (f : Nat → Int64) (r t q : Nat), 5 ≠ k → clC (gL g k f) r t q = clC g r t q := fun g k f r t q h1 => by
    simp only [clC]; rw [hg g k f _ _ _ h1]; rfl
  refine ⟨fun _ _ _ _ => rfl, fun _ _ _ _ => rfl, fun _ _ _ _ => rfl, fun _ _ _ _ => rfl, fun _ _ _ => rfl, fun _ _ _ => rfl, fun _ _ _ => rfl, fun _ _ _ => rfl, fun _ _ _ => rfl, fun _ _ _ _ _ _ => rfl, fun _ _ _ _ _ _ => rfl, fun _ _ _ => rfl, fun _ _ _ _ => rfl, fun _ _ _ _ => rfl, hg, hc, fun g k f r t h1 => ?_, fun g k f t q a n => ?_⟩
  · simp only [fitC, hc g k f _ _ _ h1]; rfl
  · induction n with
    | zero => rfl
    | succ n ih => simp only [hoC, ih]; rfl
/-- ints of the group, the assignment and the asking -/
def oth (p : Nat) : Prop := p ≠ 1 ∧ p ≠ 12 ∧ p ≠ 15 ∧ p ≠ 25
theorem fr_n {g : sm_G} {p c : Nat} {v : Int32} (h : oth p) : nQ (gS g p c v) = nQ g ∧ nR (gS g p c v) = nR g ∧ nT (gS g p c v) = nT g ∧ nO (gS g p c v) = nO g ∧ nC (gS g p c v) = nC g := by
  obtain ⟨h1, h2, h3, h4⟩ := h
  simp only [n_up]
  refine ⟨?_, ?_, ?_, ?_, ?_⟩ <;> (rw [if_neg]; intro h; omega)
theorem fr_S0 {g : sm_G} {p c : Nat} {v : Int32} (h : oth p) : (∀ q, okQ (gS g p c v) q = okQ g q) ∧ (∀ q, okR (gS g p c v) q = okR g q) ∧ (∀ q, okT (gS g p c v) q = okT g q) ∧ (∀ q, okC (gS g p c v) q = okC g q) ∧ (zQ (gS g p c v) = zQ g) ∧ (zR (gS g p c v) = zR g) ∧ (zT (gS g p c v) = zT g) ∧ (zO (gS g p c v) = zO g) ∧ (zC (gS g p c v) = zC g) ∧
  (∀ P x q, aC (gS g p c v) P x q = aC g P x q) ∧ (∀ P x q, anC (gS g p c v) P x q = anC g P x q) ∧ (wQ (gS g p c v) = wQ g) ∧ (∀ P, wL (gS g p c v) P = wL g P) ∧ (∀ t, hereC (gS g p c v) t = hereC g t) ∧ (∀ q a b, agC (gS g p c v) q a b = agC g q a b) ∧ (∀ r t q, clC (gS g p c v) r t q = clC g r t q) ∧ (∀ r t, fitC (gS g p c v) r t = fitC g r t) ∧ (∀ t q a n, hoC (gS g p c v) t q a n = hoC g t q a n) := by
  obtain ⟨n1, n2, n3, n4, n5⟩ := fr_n (g := g) (c := c) (v := v) h
  obtain ⟨h1, h2, h3, h4⟩ := h
  have e : ∀ a b, a = 1 ∨ a = 12 ∨ a = 15 ∨ a = 25 → rS (gS g p c v) a b = rS g a b := fun a b ha => by rw [rS_gS, if_neg]; intro h; omega
  have e1 := e 1 504 (by omega)
  have e2 := e 12 602 (by omega)
  have e3 := e 15 809 (by omega)
  have e4 := e 15 810 (by omega)
  have e5 := e 25 205 (by omega)
  have z1 : zQ (gS g p c v) = zQ g := by simp only [zQ, e1, n1]
  refine ⟨fun q => by simp only [okQ, n1], fun q => by simp only [okR, n2], fun q => by simp only [okT, n3], fun q => by simp only [okC, n5], z1, by simp only [zR, e2, n2], by simp only [zT, e3, n3], by simp only [zO, e4, n4], by simp only [zC, e5, n5], fun _ _ _ => rfl, fun _ _ _ => rfl, by simp only [wQ, z1, n1]; rfl, fun P => by simp only [wL, n1]; rfl, fun t => by simp only [hereC, okT, n3]; rfl, fun _ _ _ => rfl, fun _ _ _ => rfl, fun r t => by simp only [fitC, n1]; rfl, fun t q a n => ?_⟩
  induction n with
  | zero => rfl
  | succ n ih => simp only [hoC, ih]; rfl
theorem oth_all : oth 33 ∧ oth 34 ∧ oth 46 ∧ oth 0 := by unfold oth; omega
/-- one order for changes: ints outermost, longs behind them, then arrays; the greater place outside -/
theorem fr_S : (∀ (g : sm_G) (p c : Nat) (v : Int32) (k : Nat) (f : Nat → Int32), gA (gS g p c v) k f = gS (gA g k f) p c v) ∧ (∀ (g : sm_G) (p c : Nat) (v : Int32) (k : Nat) (f : Nat → Int64), gL (gS g p c v) k f = gS (gL g k f) p c v) ∧ (∀ (g : sm_G) (k : Nat) (f : Nat → Int64) (j : Nat) (h : Nat → Int32), gA (gL g k f) j h = gL (gA g j h) k f) ∧
  (∀ (g : sm_G) (k : Nat) (f : Nat → Int32) (j : Nat) (h : Nat → Int32), j < k → gA (gA g k f) j h = gA (gA g j h) k f) ∧ (∀ (g : sm_G) (k : Nat) (f : Nat → Int64) (j : Nat) (h : Nat → Int64), j < k → gL (gL g k f) j h = gL (gL g j h) k f) ∧
  (∀ (g : sm_G) (p c : Nat) (v : Int32) (d : Nat) (w : Int32), d < c → gS (gS g p c v) p d w = gS (gS g p d w) p c v) ∧ (∀ (g : sm_G) (p c : Nat) (v : Int32) (q d : Nat) (w : Int32), q < p → gS (gS g p c v) q d w = gS (gS g q d w) p c v) := by
  refine ⟨fun g p c v k f => rfl, fun g p c v k f => rfl, fun g k f j h => rfl, fun g k f j h hj => ?_, fun g k f j h hj => ?_, fun g p c v d w hj => ?_, fun g p c v q d w hj => ?_⟩
  · refine Prod.ext rfl (Prod.ext (funext fun a => ?_) rfl)
    simp only [gA]
    by_cases h1 : a = j
    · rw [if_pos h1, if_neg (by omega), if_pos h1]
    · rw [if_neg h1, if_neg h1]
  · refine Prod.ext rfl (Prod.ext rfl (funext fun a => ?_))
    simp only [gL]
    by_cases h1 : a = j
    · rw [if_pos h1, if_neg (by omega), if_pos h1]
    · rw [if_neg h1, if_neg h1]
  · refine Prod.ext (funext fun a => funext fun b => ?_) rfl
    simp only [gS]
    by_cases h1 : a = p ∧ b = d
    · rw [if_pos h1, if_neg (by omega), if_pos h1]
    · rw [if_neg h1, if_neg h1]
  · refine Prod.ext (funext fun a => funext fun b => ?_) rfl
    simp only [gS]
    by_cases h1 : a = q ∧ b = d
    · rw [if_pos h1, if_neg (by omega), if_pos h1]
    · rw [if_neg h1, if_neg h1]

