/-! The best way of a group: what it is, that the assignment finds it, that there is just one. -/
theorem sgm_neg (f : Nat → Int) : ∀ n, sgm (fun i => - f i) n = - sgm f n := by
  intro n
  induction n with
  | zero => rfl
  | succ n ih => simp only [sgm]; rw [ih]; omega
/-- reports of a group, of report r; its things -/
def mbr (g : sm_G) (r i : Nat) : Prop := con (gF g) (nR g) r i
def thg (g : sm_G) (r t : Nat) : Prop := ∃ i, mbr g r i ∧ bitL (gF g i) t = true
noncomputable def memL (g : sm_G) (r : Nat) : List Nat := lst (fun i => dc (mbr g r i)) 60
noncomputable def gdL (g : sm_G) (r : Nat) : List Nat := lst (fun t => dc (thg g r t)) 60
/-- what a way is worth -/
noncomputable def tot (g : sm_G) (R : Nat) (mem gd : Nat → Nat) (W : Nat → Option Nat) : Int := sgm (fun i => match W i with | some j => (wtN (tn (stC g (mem i) (gd j))) i j : Int) | none => 0) R
def wayOk (g : sm_G) (R C : Nat) (mem gd : Nat → Nat) (W : Nat → Option Nat) : Prop :=
  (∀ i j, i < R → W i = some j → j < C ∧ bitL (gF g (mem i)) (gd j) = true) ∧ (∀ i k j, i < R → k < R → W i = some j → W k = some j → i = k)
def bstW (g : sm_G) (R C : Nat) (mem gd : Nat → Nat) (W : Nat → Option Nat) : Prop := wayOk g R C mem gd W ∧ ∀ V, wayOk g R C mem gd V → tot g R mem gd V ≤ tot g R mem gd W
-- digits
def dgs (d : Nat → Nat) : Nat → Nat
  | 0 => 0
  | n + 1 => dgs d n + d n * 21 ^ (9 - n)
theorem dgs_ok (d : Nat → Nat) : ∀ n, n ≤ 10 → (∀ i, i < n → d i ≤ 20) → dgs d n + 21 ^ (10 - n) ≤ 21 ^ 10 ∧ ∃ q, dgs d n = 21 ^ (10 - n) * q := by
  intro n
  induction n with
  | zero => intro _ _; exact ⟨by simp [dgs], 0, rfl⟩
  | succ n ih =>
    intro hn hd
    obtain ⟨h1, q, h2⟩ := ih (by omega) (fun i hi => hd i (by omega))
    have hp : 21 ^ (10 - n) = 21 ^ (10 - (n + 1)) * 21 := by rw [← Nat.pow_succ]; congr 1; omega
    have he : 9 - n = 10 - (n + 1) := by omega
    simp only [dgs]
    rw [he]
    have hdn := hd n (by omega)
    have hm : d n * 21 ^ (10 - (n + 1)) ≤ 20 * 21 ^ (10 - (n + 1)) := Nat.mul_le_mul_right _ hdn
    refine ⟨by omega, 21 * q + d n, ?_⟩
    rw [h2, hp, Nat.mul_add, Nat.mul_assoc, Nat.mul_comm (d n)]
theorem dgs_inj {d e : Nat → Nat} : ∀ n, n ≤ 10 → (∀ i, i < n → d i ≤ 20) → (∀ i, i < n → e i ≤ 20) → dgs d n = dgs e n → ∀ i, i < n → d i = e i := by
  intro n
  induction n with
  | zero => intro _ _ _ _ i hi; omega
  | succ n ih =>
    intro hn hd he h
    obtain ⟨_, q, h2⟩ := dgs_ok d n (by omega) (fun i hi => hd i (by omega))
    obtain ⟨_, q', h3⟩ := dgs_ok e n (by omega) (fun i hi => he i (by omega))
    have hp : 21 ^ (10 - n) = 21 ^ (9 - n) * 21 := by rw [← Nat.pow_succ]; congr 1; omega
    have hpos : 0 < 21 ^ (9 - n) := Nat.pow_pos (by omega)
    simp only [dgs] at h
    rw [h2, h3, hp] at h
    have hx : 21 ^ (9 - n) * (21 * q + d n) = 21 ^ (9 - n) * (21 * q' + e n) := by
      rw [Nat.mul_add, Nat.mul_add, ← Nat.mul_assoc, ← Nat.mul_assoc, Nat.mul_comm (21 ^ (9 - n)) (d n), Nat.mul_comm (21 ^ (9 - n)) (e n)]; exact h
    have hy := Nat.eq_of_mul_eq_mul_left hpos hx
    have hdn := hd n (by omega)
    have hen := he n (by omega)
    have e1 : d n = e n := by omega
    have e2 : q = q' := by omega
    intro i hi
    by_cases ei : i = n
    · rw [ei]; exact e1
    · refine ih (by omega) (fun i hi => hd i (by omega)) (fun i hi => he i (by omega)) ?_ i (by omega)
      rw [h2, h3, e2]
/-- the digit of a row; the strength that it gets -/
def wdg (W : Nat → Option Nat) (i : Nat) : Nat := match W i with | some j => 20 - j | none => 0
noncomputable def wst (g : sm_G) (mem gd : Nat → Nat) (W : Nat → Option Nat) (i : Nat) : Nat := match W i with | some j => tn (stC g (mem i) (gd j)) | none => 0
noncomputable def wss (g : sm_G) (mem gd : Nat → Nat) (W : Nat → Option Nat) : Nat → Nat
  | 0 => 0
  | n + 1 => wss g mem gd W n + wst g mem gd W n
theorem tot_eq (g : sm_G) (mem gd : Nat → Nat) (W : Nat → Option Nat) : ∀ n, tot g n mem gd W = ((wss g mem gd W n * 16679880978201 + dgs (wdg W) n : Nat) : Int) := by
  obtain ⟨T, hT⟩ : ∃ T : Nat, T = 16679880978201 := ⟨_, rfl⟩
  have hw : ∀ s i j, wtN s i j = s * T + (20 - j) * 21 ^ (9 - i) := fun s i j => by rw [hT]; unfold wtN; exact rfl
  rw [← hT]
  clear hT
  intro n
  induction n with
  | zero => simp only [tot, sgm, wss, dgs, Nat.zero_mul, Nat.add_zero]; rfl
  | succ n ih =>
    show tot g n mem gd W + (match W n with | some j => (wtN (tn (stC g (mem n) (gd j))) n j : Int) | none => 0) = _
    rw [ih]
    simp only [wss, dgs]
    cases h : W n with
    | none => simp only [wst, wdg, h, Nat.add_zero, Nat.zero_mul, Int.add_zero]
    | some j =>
      simp only [wst, wdg, h, hw]
      rw [Nat.add_mul, ← Int.natCast_add]
      generalize wss g mem gd W n * T = x
      generalize tn (stC g (mem n) (gd j)) * T = y
      generalize (20 - j) * 21 ^ (9 - n) = z
      omega
theorem bst_uni {g : sm_G} {R C : Nat} {mem gd : Nat → Nat} {W V : Nat → Option Nat} (hR : R ≤ 10) (hC : C ≤ 20) (h1 : bstW g R C mem gd W) (h2 : bstW g R C mem gd V) : (∀ i, i < R → W i = V i) ∧ wss g mem gd W R = wss g mem gd V R := by
  have he : tot g R mem gd W = tot g R mem gd V := by
    have a := h1.2 V h2.1
    have b := h2.2 W h1.1
    omega
  rw [tot_eq, tot_eq] at he
  have hw : ∀ i, i < R → wdg W i ≤ 20 := fun i _ => by unfold wdg; split <;> omega
  have hv : ∀ i, i < R → wdg V i ≤ 20 := fun i _ => by unfold wdg; split <;> omega
  have b1 := (dgs_ok (wdg W) R hR hw).1
  have b2 := (dgs_ok (wdg V) R hR hv).1
  have p1 : 0 < 21 ^ (10 - R) := Nat.pow_pos (by omega)
  have e10 : (21 : Nat) ^ 10 = 16679880978201 := by decide
  rw [e10] at b1 b2
  have hd : dgs (wdg W) R = dgs (wdg V) R := by omega
  refine ⟨fun i hi => ?_, by omega⟩
  have hi2 := dgs_inj R hR hw hv hd i hi
  unfold wdg at hi2
  cases hW : W i with
  | none =>
    cases hV : V i with
    | none => rfl
    | some j =>
      have := (h2.1.1 i j hi hV).1
      rw [hW, hV] at hi2; simp only at hi2; omega
  | some j =>
    have q1 := (h1.1.1 i j hi hW).1
    cases hV : V i with
    | none => rw [hW, hV] at hi2; simp only at hi2; omega
    | some j2 =>
      have q2 := (h2.1.1 i j2 hi hV).1
      rw [hW, hV] at hi2; simp only at hi2
      have : j = j2 := by omega
      rw [this]
/-- the column that a row holds -/
def colH (hd : Nat → Int32) (C i : Nat) : Option Nat := ffst (fun j => (hd (j + 1)).toInt == (i : Int) + 1) C
theorem hO_best {g : sm_G} {R C : Nat} {mem gd : Nat → Nat} {ct : Nat → Int64} {hd gn : Nat → Int32} (hR : R ≤ 10) (hC : C ≤ 20) (hst : ∀ r t, 0 ≤ (stC g r t).toInt ∧ (stC g r t).toInt ≤ 19200)
    (ho : hO C R ct hd) (hw : ∀ i j, i < R → j < 30 → (bitL (gF g (mem i)) (gd j) = true ∧ j < C → ct ((i + 1) * 31 + j + 1) = -((stC g (mem i) (gd j)).toInt64 * lN 16679880978201 + lN ((20 - j) * 21 ^ (9 - i)))) ∧ (¬ (bitL (gF g (mem i)) (gd j) = true ∧ j < C) → ct ((i + 1) * 31 + j + 1) = if j < C then lN 1152921504606846976 else lN 0)) :
    bstW g R C mem gd (colH hd C) := by
  obtain ⟨rp, cp, h, hhd, hm, hf⟩ := ho
  have hhR : ∀ c, 1 ≤ c → c ≤ C + R → h c ≤ 10 := fun c a b => by have := hm.1 c a b; omega
  have hch : ∀ i, ∃ c, i < R → 1 ≤ c ∧ c ≤ C + R ∧ h c = i + 1 := fun i => by
    by_cases hi : i < R
    · obtain ⟨c, c1, c2, c3⟩ := hm.2.2 (i + 1) (by omega) (by omega)
      exact ⟨c, fun _ => ⟨c1, c2, c3⟩⟩
    · exact ⟨0, fun h => absurd h hi⟩
  obtain ⟨m, hmm⟩ := Classical.axiomOfChoice hch
  have hcol : ∀ i j, i < R → (colH hd C i = some j ↔ (j < C ∧ m i = j + 1)) := fun i j hi => by
    obtain ⟨m1, m2, m3⟩ := hmm i hi
    constructor
    · intro hx
      obtain ⟨j1, j2⟩ := ffst_lt hx
      refine ⟨j1, ?_⟩
      have hj := hhR (j + 1) (by omega) (by omega)
      have j2 : (hd (j + 1)).toInt = (i : Int) + 1 := by simpa using j2
      rw [hhd (j + 1) (by omega), nI_t (by omega)] at j2
      exact hm.2.1 (m i) (j + 1) m1 m2 (by omega) (by omega) (by omega) (by omega)
    · rintro ⟨j1, j2⟩
      have hjj : (hd (j + 1)).toInt = (i : Int) + 1 := by
        rw [hhd (j + 1) (by omega), ← j2, m3, nI_t (by omega)]; omega
      refine ffst_some (by rw [hjj]; simp) (fun u hu => ?_) j1
      refine Bool.eq_false_iff.mpr (fun h9 => ?_)
      have h9 : (hd (u + 1)).toInt = (i : Int) + 1 := by simpa using h9
      have hj := hhR (u + 1) (by omega) (by omega)
      rw [hhd (u + 1) (by omega), nI_t (by omega)] at h9
      have := hm.2.1 (m i) (u + 1) m1 m2 (by omega) (by omega) (by omega) (by omega)
      omega
  have hcn : ∀ i, i < R → (colH hd C i = none ↔ C < m i) := fun i hi => by
    obtain ⟨m1, m2, m3⟩ := hmm i hi
    constructor
    · intro hx
      refine Classical.byContradiction (fun hc => ?_)
      have := (hcol i (m i - 1) hi).mpr ⟨by omega, by omega⟩
      rw [hx] at this; cases this
    · intro hx
      cases hc : colH hd C i with
      | none => rfl
      | some j => have := (hcol i j hi).mp hc; omega
  have hct : ∀ i j, i < R → j < 30 → (bitL (gF g (mem i)) (gd j) = true ∧ j < C → (ct ((i + 1) * 31 + (j + 1))).toInt = -(wtN (tn (stC g (mem i) (gd j))) i j : Int)) ∧ (¬ (bitL (gF g (mem i)) (gd j) = true ∧ j < C) → (ct ((i + 1) * 31 + (j + 1))).toInt = if j < C then 1152921504606846976 else 0) := fun i j hi hj => by
    obtain ⟨a, b⟩ := hw i j hi hj
    rw [show (i + 1) * 31 + (j + 1) = (i + 1) * 31 + j + 1 by omega]
    refine ⟨fun hx => ?_, fun hx => ?_⟩
    · rw [a hx]; exact (wt_t (hst _ _).1 (hst _ _).2).1
    · rw [b hx]; split
      · exact lN_t (by omega)
      · exact lN_t (by omega)
  have hfit : ∀ i j, i < R → colH hd C i = some j → j < C ∧ bitL (gF g (mem i)) (gd j) = true := fun i j hi hx => by
    obtain ⟨j1, j2⟩ := (hcol i j hi).mp hx
    refine ⟨j1, ?_⟩
    cases hb : bitL (gF g (mem i)) (gd j) with
    | true => rfl
    | false =>
      exfalso
      have hc1 := (hct i j hi (by omega)).2 (fun h => by rw [hb] at h; exact absurd h.1 (by decide))
      rw [if_pos j1] at hc1
      obtain ⟨m1, m2, m3⟩ := hmm i hi
      have tight := hf.2.1 (m i) m1 m2 (by omega)
      rw [m3, j2, hc1] at tight
      have hneg := hf.2.2.1 (j + 1) (by omega) (by omega)
      have hex : ∃ c, C < c ∧ c ≤ C + R ∧ h c = 0 := by
        refine Classical.byContradiction (fun hno => ?_)
        have hne : ∀ c, C < c → c ≤ C + R → h c ≠ 0 := fun c a b e => hno ⟨c, a, b, e⟩
        have := pig R (R + 1) (fun u => if u = R then i else h (C + 1 + u) - 1) (fun u hu => by
          (try dsimp only)
          by_cases e : u = R
          · rw [if_pos e]; exact hi
          · rw [if_neg e]
            have h1 := hne (C + 1 + u) (by omega) (by omega)
            have h2 := hm.1 (C + 1 + u) (by omega) (by omega)
            omega) (fun u v hu hv e => by
          (try dsimp only at e)
          by_cases e1 : u = R <;> by_cases e2 : v = R
          · omega
          · rw [if_pos e1, if_neg e2] at e
            have h1 := hne (C + 1 + v) (by omega) (by omega)
            have := hm.2.1 (m i) (C + 1 + v) m1 m2 (by omega) (by omega) (by omega) (by omega)
            omega
          · rw [if_neg e1, if_pos e2] at e
            have h1 := hne (C + 1 + u) (by omega) (by omega)
            have := hm.2.1 (m i) (C + 1 + u) m1 m2 (by omega) (by omega) (by omega) (by omega)
            omega
          · rw [if_neg e1, if_neg e2] at e
            have h1 := hne (C + 1 + u) (by omega) (by omega)
            have h2 := hne (C + 1 + v) (by omega) (by omega)
            have := hm.2.1 (C + 1 + u) (C + 1 + v) (by omega) (by omega) (by omega) (by omega) (by omega) h1
            omega)
        omega
      obtain ⟨c, c1, c2, c3⟩ := hex
      have hfe := hf.1 (i + 1) c (by omega) (by omega) (by omega) c2
      have hz := hf.2.2.2.1 c (by omega) c2 c3
      have hcc := (hct i (c - 1) hi (by omega)).2 (fun h => by omega)
      rw [if_neg (by omega), show c - 1 + 1 = c by omega] at hcc
      omega
  refine ⟨⟨hfit, fun i k j hi hk h1 h2 => ?_⟩, fun V hV => ?_⟩
  · have a := (hcol i j hi).mp h1
    have b := (hcol k j hk).mp h2
    have a3 := (hmm i hi).2.2
    have b3 := (hmm k hk).2.2
    rw [a.2] at a3; rw [b.2] at b3; omega
  · have hls := hO_least hm hf m hmm (fun i => match V i with | some j => j + 1 | none => C + 1 + i) (fun i hi => by
      (try dsimp only)
      split
      · rename_i j hj
        have := (hV.1 i j hi hj).1; omega
      · omega) (fun i k hi hk e => by
      (try dsimp only at e)
      cases hi2 : V i with
      | none =>
        cases hk2 : V k with
        | none => rw [hi2, hk2] at e; simp only at e; omega
        | some j => have := (hV.1 k j hk hk2).1; rw [hi2, hk2] at e; simp only at e; omega
      | some j =>
        have q := (hV.1 i j hi hi2).1
        cases hk2 : V k with
        | none => rw [hi2, hk2] at e; simp only at e; omega
        | some j2 =>
          rw [hi2, hk2] at e; simp only at e
          have : j = j2 := by omega
          rw [← this] at hk2
          exact hV.2 i k j hi hk hi2 hk2)
    have eT : sgm (fun i => (ct ((i + 1) * 31 + m i)).toInt) R = - tot g R mem gd (colH hd C) := by
      unfold tot
      rw [← sgm_neg]
      refine sgm_congr (fun i hi => ?_)
      (try dsimp only)
      obtain ⟨m1, m2, m3⟩ := hmm i hi
      cases hc : colH hd C i with
      | none =>
        have := (hcn i hi).mp hc
        have hx := (hct i (m i - 1) hi (by omega)).2 (fun h => by omega)
        rw [if_neg (by omega), show m i - 1 + 1 = m i by omega] at hx
        rw [hx]; rfl
      | some j =>
        have hj := (hcol i j hi).mp hc
        rw [hj.2, (hct i j hi (by omega)).1 ⟨(hfit i j hi hc).2, hj.1⟩]
    have eV : sgm (fun i => (ct ((i + 1) * 31 + (match V i with | some j => j + 1 | none => C + 1 + i))).toInt) R = - tot g R mem gd V := by
      unfold tot
      rw [← sgm_neg]
      refine sgm_congr (fun i hi => ?_)
      (try dsimp only)
      cases hc : V i with
      | none =>
        have hx := (hct i (C + i) hi (by omega)).2 (fun h => by omega)
        rw [if_neg (by omega), show C + i + 1 = C + 1 + i by omega] at hx
        simp only; rw [hx]; rfl
      | some j =>
        have hj := hV.1 i j hi hc
        simp only
        rw [(hct i j hi (by omega)).1 ⟨hj.2, hj.1⟩]
    rw [eT, eV] at hls
    omega

