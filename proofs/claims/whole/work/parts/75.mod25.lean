/-! The greatest worth, thing by thing: what the reference counts, and that it is the best way's. -/
/-- what is got for a set by the first i reports tried for one thing; f is the worth of the later things -/
def vst (f : Nat → Nat) (u : Nat → Option Nat) (s : Nat) : Nat → Nat
  | 0 => f s
  | i + 1 => match u i with
    | some w => if s.testBit i = true ∧ vst f u s i < w + f (s ^^^ 2 ^ i) then w + f (s ^^^ 2 ^ i) else vst f u s i
    | none => vst f u s i
def val (u : Nat → Nat → Option Nat) (R C : Nat) : Nat → Nat → Nat
  | 0, _ => 0
  | n + 1, s => vst (val u R C n) (fun i => u i (C - 1 - n)) s R
theorem vst_base (f : Nat → Nat) (u : Nat → Option Nat) (s : Nat) : ∀ i, f s ≤ vst f u s i := by
  intro i
  induction i with
  | zero => exact Nat.le_refl _
  | succ i ih =>
    simp only [vst]
    split
    · split
      · omega
      · exact ih
    · exact ih
theorem vst_ge {f : Nat → Nat} {u : Nat → Option Nat} {s i w : Nat} (hu : u i = some w) (hs : s.testBit i = true) : ∀ R, i < R → w + f (s ^^^ 2 ^ i) ≤ vst f u s R := by
  intro R
  induction R with
  | zero => intro h; omega
  | succ R ih =>
    intro h
    simp only [vst]
    by_cases e : i = R
    · subst e
      rw [hu]
      simp only [hs, true_and]
      split <;> omega
    · have ih := ih (by omega)
      split
      · split
        · omega
        · exact ih
      · exact ih
theorem vst_up (f : Nat → Nat) (u : Nat → Option Nat) (s i : Nat) : ∀ R, i ≤ R → vst f u s i ≤ vst f u s R := by
  intro R
  induction R with
  | zero =>
    intro h
    obtain rfl : i = 0 := by omega
    exact Nat.le_refl _
  | succ R ih =>
    intro h
    by_cases e : i = R + 1
    · rw [e]; exact Nat.le_refl _
    · have ih := ih (by omega)
      refine Nat.le_trans ih ?_
      show _ ≤ vst f u s (R + 1)
      simp only [vst]
      split
      · split
        · omega
        · exact Nat.le_refl _
      · exact Nat.le_refl _
theorem vst_no {f : Nat → Nat} {u : Nat → Option Nat} {s i : Nat} (h : u i = none ∨ s.testBit i = false ∨ ∃ w, u i = some w ∧ w + f (s ^^^ 2 ^ i) ≤ vst f u s i) : vst f u s (i + 1) = vst f u s i := by
  simp only [vst]
  rcases h with h | h | ⟨w, h, h2⟩
  · rw [h]
  · split
    · rw [if_neg (by rw [h]; exact fun a => absurd a.1 (by decide))]
    · rfl
  · rw [h]
    (try dsimp only)
    rw [if_neg (by omega)]
theorem vst_yes {f : Nat → Nat} {u : Nat → Option Nat} {s i w : Nat} (h : u i = some w) (hs : s.testBit i = true) (h2 : ¬ w + f (s ^^^ 2 ^ i) ≤ vst f u s i) : vst f u s (i + 1) = w + f (s ^^^ 2 ^ i) := by
  simp only [vst]
  rw [h]
  (try dsimp only)
  rw [if_pos ⟨hs, by omega⟩]
theorem vst_at (f : Nat → Nat) (u : Nat → Option Nat) (s : Nat) : ∀ R, vst f u s R = f s ∨ ∃ i w, i < R ∧ u i = some w ∧ s.testBit i = true ∧ w + f (s ^^^ 2 ^ i) = vst f u s R := by
  intro R
  induction R with
  | zero => exact Or.inl rfl
  | succ R ih =>
    have up : (vst f u s R = f s ∨ ∃ i w, i < R + 1 ∧ u i = some w ∧ s.testBit i = true ∧ w + f (s ^^^ 2 ^ i) = vst f u s R) := by
      rcases ih with h | ⟨i, w, h1, h2⟩
      · exact Or.inl h
      · exact Or.inr ⟨i, w, by omega, h2⟩
    simp only [vst]
    cases hu : u R with
    | none => exact up
    | some w =>
      (try dsimp only)
      by_cases h : s.testBit R = true ∧ vst f u s R < w + f (s ^^^ 2 ^ R)
      · rw [if_pos h]
        exact Or.inr ⟨R, w, by omega, hu, h.1, rfl⟩
      · rw [if_neg h]; exact up
theorem xor_bit (s i k : Nat) : (s ^^^ 2 ^ i).testBit k = if k = i then !s.testBit k else s.testBit k := by
  rw [Nat.testBit_xor, Nat.testBit_two_pow]
  by_cases e : k = i
  · rw [if_pos e]; simp [e]
  · rw [if_neg e]; simp [show ¬ i = k from fun h => e h.symm]
theorem cnt_xor {s i R : Nat} (hi : i < R) (hs : s.testBit i = true) : cnt (fun k => (s ^^^ 2 ^ i).testBit k) R + 1 ≤ cnt (fun k => s.testBit k) R := by
  refine cnt_lt R (fun k _ h => ?_) ⟨i, hi, ?_, hs⟩
  · rw [xor_bit] at h
    by_cases e : k = i
    · rw [e]; exact hs
    · rw [if_neg e] at h; exact h
  · rw [xor_bit, if_pos rfl, hs]; rfl
theorem val_bd {u : Nat → Nat → Option Nat} {R C b : Nat} (hb : ∀ i j w, u i j = some w → w ≤ b) : ∀ n s, val u R C n s ≤ cnt (fun k => s.testBit k) R * b := by
  intro n
  induction n with
  | zero => intro s; exact Nat.zero_le _
  | succ n ih =>
    intro s
    rcases vst_at (val u R C n) (fun i => u i (C - 1 - n)) s R with h | ⟨i, w, h1, h2, h3, h4⟩
    · show vst _ _ _ _ ≤ _
      rw [h]; exact ih s
    · show vst _ _ _ _ ≤ _
      rw [← h4]
      have a := hb i _ w h2
      have d := ih (s ^^^ 2 ^ i)
      have e := cnt_xor h1 h3
      have f := Nat.mul_le_mul_right b e
      rw [Nat.add_mul, Nat.one_mul] at f
      omega
/-- ways of the things from the n-th last on, for the reports of a set -/
def wy (u : Nat → Nat → Option Nat) (R C n s : Nat) (V : Nat → Option Nat) : Prop := (∀ i j, i < R → V i = some j → s.testBit i = true ∧ C ≤ j + n ∧ j < C ∧ ∃ w, u i j = some w) ∧ ∀ i k j, i < R → k < R → V i = some j → V k = some j → i = k
def tv (u : Nat → Nat → Option Nat) (V : Nat → Option Nat) : Nat → Nat
  | 0 => 0
  | i + 1 => tv u V i + (match V i with | some j => (u i j).getD 0 | none => 0)
theorem tv_congr {u : Nat → Nat → Option Nat} {V W : Nat → Option Nat} : ∀ R, (∀ i, i < R → V i = W i) → tv u V R = tv u W R := by
  intro R
  induction R with
  | zero => intro _; rfl
  | succ R ih => intro h; simp only [tv]; rw [ih (fun i hi => h i (by omega)), h R (by omega)]
theorem tv_set {u : Nat → Nat → Option Nat} {V : Nat → Option Nat} {i j : Nat} (hV : V i = some j) : ∀ R, i < R → tv u V R = tv u (fun k => if k = i then none else V k) R + (u i j).getD 0 := by
  intro R
  induction R with
  | zero => intro h; omega
  | succ R ih =>
    intro h
    simp only [tv]
    by_cases e : R = i
    · subst e
      rw [if_pos rfl, hV]
      rw [tv_congr (W := fun k => if k = R then none else V k) R (fun k hk => by (try dsimp only); rw [if_neg (by omega)])]
      rfl
    · rw [if_neg e, ih (by omega)]; omega
theorem tv_0 {u : Nat → Nat → Option Nat} {V : Nat → Option Nat} : ∀ R, (∀ i, i < R → V i = none) → tv u V R = 0 := by
  intro R
  induction R with
  | zero => intro _; rfl
  | succ R ih => intro h; simp only [tv]; rw [ih (fun i hi => h i (by omega)), h R (by omega)]; rfl
theorem val_ub {u : Nat → Nat → Option Nat} {R C : Nat} : ∀ n, n ≤ C → ∀ s V, wy u R C n s V → tv u V R ≤ val u R C n s := by
  intro n
  induction n with
  | zero =>
    intro _ s V h
    rw [tv_0 R (fun i hi => by
      cases e : V i with
      | none => rfl
      | some j => have := h.1 i j hi e; omega)]
    exact Nat.zero_le _
  | succ n ih =>
    intro hn s V h
    by_cases hx : ∃ i, i < R ∧ V i = some (C - 1 - n)
    · obtain ⟨i, hi, hV⟩ := hx
      obtain ⟨h1, h2, h3, w, hw⟩ := h.1 i _ hi hV
      have q := ih (by omega) (s ^^^ 2 ^ i) (fun k => if k = i then none else V k) ⟨fun k j hk hkj => by
        (try dsimp only at hkj)
        by_cases e : k = i
        · rw [if_pos e] at hkj; cases hkj
        · rw [if_neg e] at hkj
          obtain ⟨a1, a2, a3, a4⟩ := h.1 k j hk hkj
          refine ⟨by rw [xor_bit, if_neg e]; exact a1, ?_, a3, a4⟩
          have : j ≠ C - 1 - n := fun e2 => e (h.2 k i j hk hi hkj (by rw [e2]; exact hV))
          omega, fun a b j ha hb h1 h2 => by
        (try dsimp only at h1 h2)
        by_cases e1 : a = i
        · rw [if_pos e1] at h1; cases h1
        · by_cases e2 : b = i
          · rw [if_pos e2] at h2; cases h2
          · rw [if_neg e1] at h1; rw [if_neg e2] at h2
            exact h.2 a b j ha hb h1 h2⟩
      rw [tv_set hV R hi, hw]
      have g := vst_ge (f := val u R C n) (u := fun i => u i (C - 1 - n)) hw h1 R hi
      show _ + w ≤ vst _ _ _ _
      omega
    · refine Nat.le_trans (ih (by omega) s V ⟨fun i j hi hj => ?_, h.2⟩) (vst_base _ _ _ R)
      obtain ⟨a1, a2, a3, a4⟩ := h.1 i j hi hj
      refine ⟨a1, ?_, a3, a4⟩
      have : j ≠ C - 1 - n := fun e => hx ⟨i, hi, by rw [← e]; exact hj⟩
      omega
/-- on the way back: things below j are given, s is not served yet -/
def wb (u : Nat → Nat → Option Nat) (R C j s : Nat) (W : Nat → Option Nat) : Prop := s < 2 ^ R ∧ (∀ i k, i < R → W i = some k → s.testBit i = false ∧ k < j ∧ ∃ w, u i k = some w) ∧ (∀ a b k, a < R → b < R → W a = some k → W b = some k → a = b) ∧ tv u W R + val u R C (C - j) s = val u R C C (2 ^ R - 1)
theorem wb_0 (u : Nat → Nat → Option Nat) (R C : Nat) : wb u R C 0 (2 ^ R - 1) (fun _ => none) := by
  have : 0 < 2 ^ R := Nat.pow_pos (by omega)
  refine ⟨by omega, fun i k _ h => (by cases h), fun a b k _ _ h => (by cases h), ?_⟩
  rw [tv_0 R (fun _ _ => rfl), Nat.zero_add]; rfl
theorem wb_same {u : Nat → Nat → Option Nat} {R C j s : Nat} {W : Nat → Option Nat} (h : wb u R C j s W) (e : val u R C (C - j) s = val u R C (C - (j + 1)) s) : wb u R C (j + 1) s W := by
  obtain ⟨h1, h2, h3, h4⟩ := h
  refine ⟨h1, fun i k hi hk => ?_, h3, by rw [← e]; exact h4⟩
  obtain ⟨a, b, d⟩ := h2 i k hi hk
  exact ⟨a, by omega, d⟩
theorem wb_give {u : Nat → Nat → Option Nat} {R C j s i w : Nat} {W : Nat → Option Nat} (h : wb u R C j s W) (hi : i < R) (hs : s.testBit i = true) (hu : u i j = some w) (e : w + val u R C (C - (j + 1)) (s ^^^ 2 ^ i) = val u R C (C - j) s) : wb u R C (j + 1) (s ^^^ 2 ^ i) (fun k => if k = i then some j else W k) := by
  obtain ⟨h1, h2, h3, h4⟩ := h
  have hWi : W i = none := by
    cases hx : W i with
    | none => rfl
    | some k => have := (h2 i k hi hx).1; rw [hs] at this; cases this
  refine ⟨Nat.xor_lt_two_pow h1 (Nat.pow_lt_pow_right (by omega) hi), fun k m hk hm => ?_, fun a b k ha hb h5 h6 => ?_, ?_⟩
  · (try dsimp only at hm)
    by_cases e2 : k = i
    · rw [if_pos e2] at hm
      injection hm with hm
      subst hm
      refine ⟨by rw [xor_bit, if_pos e2, e2, hs]; rfl, by omega, w, by rw [e2]; exact hu⟩
    · rw [if_neg e2] at hm
      obtain ⟨a, b, d⟩ := h2 k m hk hm
      exact ⟨by rw [xor_bit, if_neg e2]; exact a, by omega, d⟩
  · (try dsimp only at h5 h6)
    by_cases e1 : a = i <;> by_cases e2 : b = i
    · omega
    · rw [if_pos e1] at h5; rw [if_neg e2] at h6
      injection h5 with h5
      have := (h2 b k hb h6).2.1; omega
    · rw [if_neg e1] at h5; rw [if_pos e2] at h6
      injection h6 with h6
      have := (h2 a k ha h5).2.1; omega
    · rw [if_neg e1] at h5; rw [if_neg e2] at h6
      exact h3 a b k ha hb h5 h6
  · rw [tv_set (V := fun k => if k = i then some j else W k) (i := i) (j := j) (by (try dsimp only); rw [if_pos rfl]) R hi, hu]
    rw [tv_congr (W := W) R (fun k hk => by
      (try dsimp only)
      by_cases e2 : k = i
      · rw [if_pos e2, e2, hWi]
      · rw [if_neg e2, if_neg e2])]
    show tv u W R + w + _ = _
    omega
/-- what it is worth that the i-th report is given the j-th thing -/
noncomputable def uC (c : sm_G) (mem gd : Nat → Nat) (i j : Nat) : Option Nat := if bitL (gF c (mem i)) (gd j) = true then some (wtN (tn (stC c (mem i) (gd j))) i j) else none
theorem uC_some {c : sm_G} {mem gd : Nat → Nat} {i j w : Nat} (h : uC c mem gd i j = some w) : bitL (gF c (mem i)) (gd j) = true ∧ w = wtN (tn (stC c (mem i) (gd j))) i j := by
  unfold uC at h
  by_cases e : bitL (gF c (mem i)) (gd j) = true
  · rw [if_pos e] at h; injection h with h; exact ⟨e, h.symm⟩
  · rw [if_neg e] at h; cases h
theorem tv_tot {c : sm_G} {mem gd : Nat → Nat} {V : Nat → Option Nat} : ∀ R, (∀ i j, i < R → V i = some j → bitL (gF c (mem i)) (gd j) = true) → (tv (uC c mem gd) V R : Int) = tot c R mem gd V := by
  intro R
  induction R with
  | zero => intro _; rfl
  | succ R ih =>
    intro h
    have ih := ih (fun i j hi => h i j (by omega))
    show ((tv (uC c mem gd) V R + _ : Nat) : Int) = tot c R mem gd V + (match V R with | some j => (wtN (tn (stC c (mem R) (gd j))) R j : Int) | none => 0)
    rw [← ih]
    cases e : V R with
    | none => simp only; omega
    | some j =>
      have hb := h R j (by omega) e
      simp only [uC]
      rw [if_pos hb]
      simp only [Option.getD_some]
      omega
theorem wb_bst {c : sm_G} {mem gd : Nat → Nat} {R C s : Nat} {W : Nat → Option Nat} (h : wb (uC c mem gd) R C C s W) : bstW c R C mem gd W ∧ ((val (uC c mem gd) R C C (2 ^ R - 1) : Nat) : Int) = tot c R mem gd W := by
  obtain ⟨h1, h2, h3, h4⟩ := h
  have hok : wayOk c R C mem gd W := ⟨fun i j hi hj => by
    obtain ⟨_, b, w, d⟩ := h2 i j hi hj
    exact ⟨b, (uC_some d).1⟩, fun i k j hi hk a b => h3 i k j hi hk a b⟩
  have e0 : val (uC c mem gd) R C (C - C) s = 0 := by rw [Nat.sub_self]; rfl
  rw [e0, Nat.add_zero] at h4
  have eW := tv_tot (c := c) (mem := mem) (gd := gd) (V := W) R (fun i j hi hj => (hok.1 i j hi hj).2)
  refine ⟨⟨hok, fun V hV => ?_⟩, by rw [← h4, eW]⟩
  have eV := tv_tot (c := c) (mem := mem) (gd := gd) (V := V) R (fun i j hi hj => (hV.1 i j hi hj).2)
  rw [← eW, ← eV, h4]
  have hp : 0 < 2 ^ R := Nat.pow_pos (by omega)
  have := val_ub (u := uC c mem gd) (R := R) C (Nat.le_refl _) (2 ^ R - 1) V ⟨fun i j hi hj => by
    obtain ⟨a, b⟩ := hV.1 i j hi hj
    refine ⟨by rw [Nat.testBit_two_pow_sub_one, decide_eq_true_eq]; exact hi, by omega, a, wtN (tn (stC c (mem i) (gd j))) i j, ?_⟩
    unfold uC; rw [if_pos b], hV.2⟩
  omega

