/-! Things go out, with what is inside. -/
theorem cnt_flip {f h : Nat → Bool} {c : Nat} : ∀ n, c < n → f c = true → h c = false → (∀ i, i < n → i ≠ c → f i = h i) → cnt f n = cnt h n + 1 := by
  intro n
  induction n with
  | zero => intro hc; omega
  | succ n ih =>
    intro hc h1 h2 h3
    simp only [cnt]
    by_cases e : c = n
    · subst e
      rw [h1, h2, cnt_congr (f := f) (h := h) c (fun i hi => h3 i (by omega) (by omega))]
      rw [if_pos rfl, if_neg (by decide)]
    · rw [ih (by omega) h1 h2 (fun i hi hne => h3 i (by omega) hne), h3 n (by omega) (fun e2 => e e2.symm)]
      omega
/-- the numbers of claims that stand are right -/
def stOk (g : sm_G) : Prop := ∀ t, t < 60 → rA g 30 t = nI (cnt (fun k => dc ((rA g 28 k).toInt ≤ 1 ∧ (rA g 27 k).toInt = (t : Int))) (nC g))
theorem fin_28 (g : sm_G) (c : Nat) (s : Int32) (k : Nat) : rA (fin g c s) 28 k = if k = c ∧ (rA g 28 c).toInt ≤ 1 then s else rA g 28 k := by
  unfold fin
  by_cases h : (rA g 28 c).toInt ≤ 1
  · rw [if_pos h, rA_gA, if_neg (by decide), rA_gA, if_pos rfl]
    by_cases e : k = c
    · rw [if_pos ⟨e, h⟩, e, pk_us]
    · rw [if_neg (fun h2 => e h2.1), pk_un e]
  · rw [if_neg h, if_neg (fun h2 => h h2.2)]
theorem stOk_fin {g : sm_G} {c : Nat} {s : Int32} (h : stOk g) (hc : c < nC g) (hn : nC g ≤ 100) (ht : sm_in (rA g 27 c) 60) (hs : 1 < s.toInt) : stOk (fin g c s) := by
  obtain ⟨t0, ht0, et⟩ := sm_in_nI ht
  intro t htt
  have e27 : rA (fin g c s) 27 = rA g 27 := fin_A g c s 27 (by decide) (by decide)
  have eC : nC (fin g c s) = nC g := by simp only [nC, fin_S]
  rw [e27, eC]
  by_cases h1 : (rA g 28 c).toInt ≤ 1
  · have e30 : rA (fin g c s) 30 = upd (rA g 30) t0 (rA g 30 t0 - nI 1) := by
      unfold fin; rw [if_pos h1, rA_gA, if_pos rfl, et, tn_nI (by omega)]
    rw [e30]
    by_cases e : t = t0
    · subst e
      rw [pk_us, h t htt]
      have hfl := cnt_flip (f := fun k => dc ((rA g 28 k).toInt ≤ 1 ∧ (rA g 27 k).toInt = (t : Int))) (h := fun k => dc ((rA (fin g c s) 28 k).toInt ≤ 1 ∧ (rA g 27 k).toInt = (t : Int))) (nC g) hc
        (dc_t.mpr ⟨h1, by rw [et, nI_t (by omega)]⟩) (dc_f.mpr (fun h2 => by have := h2.1; rw [fin_28, if_pos ⟨rfl, h1⟩] at this; omega)) (fun i _ hne => by
          show dc _ = dc _
          rw [fin_28, if_neg (fun h2 => hne h2.1)])
      rw [hfl, pk_sub (by omega)]; rfl
    · rw [pk_un e, h t htt]
      refine congrArg nI (cnt_congr _ (fun k _ => ?_))
      show dc _ = dc _
      by_cases ek : k = c
      · subst ek
        have n1 : ¬ ((rA g 28 k).toInt ≤ 1 ∧ (rA g 27 k).toInt = (t : Int)) := fun h2 => by rw [et, nI_t (by omega)] at h2; omega
        have n2 : ¬ ((rA (fin g k s) 28 k).toInt ≤ 1 ∧ (rA g 27 k).toInt = (t : Int)) := fun h2 => by rw [et, nI_t (by omega)] at h2; omega
        rw [dc_f.mpr n1, dc_f.mpr n2]
      · rw [fin_28, if_neg (fun h2 => ek h2.1)]
  · have e0 : fin g c s = g := by unfold fin; rw [if_neg h1]
    rw [e0]; exact h t htt
theorem fins_28 (g : sm_G) (f : Nat → Bool) (s : Int32) (k : Nat) : ∀ n, rA (fins g f s n) 28 k = if k < n ∧ f k = true ∧ (rA g 28 k).toInt ≤ 1 then s else rA g 28 k := by
  intro n
  induction n with
  | zero => rw [if_neg (by omega)]; rfl
  | succ n ih =>
    simp only [fins]
    by_cases hf : f n = true
    · rw [if_pos hf, fin_28]
      by_cases e : k = n
      · subst e
        rw [ih, if_neg (show ¬ (k < k ∧ f k = true ∧ (rA g 28 k).toInt ≤ 1) from fun h => by omega)]
        by_cases h1 : (rA g 28 k).toInt ≤ 1
        · rw [if_pos ⟨rfl, h1⟩, if_pos ⟨by omega, hf, h1⟩]
        · rw [if_neg (fun h => h1 h.2), if_neg (fun h => h1 h.2.2)]
      · rw [if_neg (fun h => e h.1), ih]
        by_cases h2 : k < n ∧ f k = true ∧ (rA g 28 k).toInt ≤ 1
        · rw [if_pos h2, if_pos ⟨by omega, h2.2⟩]
        · rw [if_neg h2, if_neg (fun h => h2 ⟨by omega, h.2⟩)]
    · rw [if_neg hf, ih]
      by_cases h2 : k < n ∧ f k = true ∧ (rA g 28 k).toInt ≤ 1
      · rw [if_pos h2, if_pos ⟨by omega, h2.2⟩]
      · rw [if_neg h2, if_neg (fun h => h2 ⟨by
          have := h.1
          by_cases e : k = n
          · rw [e] at h; exact absurd h.2.1 hf
          · omega, h.2⟩)]
theorem stOk_fins {g : sm_G} {f : Nat → Bool} {s : Int32} (h : stOk g) (hn : nC g ≤ 100) (ht : ∀ c, c < nC g → sm_in (rA g 27 c) 60) (hs : 1 < s.toInt) : ∀ n, n ≤ nC g → stOk (fins g f s n) := by
  intro n
  induction n with
  | zero => intro _; exact h
  | succ n ih =>
    intro hn2
    have ih := ih (by omega)
    simp only [fins]
    split
    · refine stOk_fin ih (by rw [fins_C]; omega) (by rw [fins_C]; exact hn) ?_ hs
      rw [fins_A _ _ _ _ (by decide) (by decide)]; exact ht n (by omega)
    · exact ih
/-- a thing leaves -/
def leaG (g : sm_G) (t : Nat) (w d y : Int32) : sm_G := gS (gA (gA (gA (gA (gA g 19 (upd (rA g 19) t (sI 0))) 21 (upd (rA g 21) t w)) 22 (upd (rA g 22) t d)) 23 (upd (rA g 23) t y)) 24 (upd (rA g 24) (nO g) (nI t))) 15 810 (nI (nO g + 1))
/-- a thing goes out by itself -/
def outG (g : sm_G) (t : Nat) (w y : Int32) : sm_G := leaG (fins g (fun c => (rA g 27 c).toInt == (t : Int)) (nI 5) (nC g)) t w (rS g 0 911) y
/-- a thing comes to the shelf -/
def mvS (g : sm_G) (o : Nat) : sm_G := gA g 19 (upd (rA g 19) o (sI 0))
def itr (step : sm_G → Nat → sm_G) (g : sm_G) : Nat → sm_G
  | 0 => g
  | n + 1 => step (itr step g n) n
/-- a thing goes out, with what is inside -/
def goT : Nat → sm_G → Nat → Int32 → Int32 → sm_G
  | 0, g, _, _, _ => g
  | f + 1, g, t, w, y => itr (fun g o => if (rA g 19 o).toInt = (t : Int) then (if 0 < (rA g 30 o).toInt then mvS g o else goT f g o w y) else g) (outG g t w y) (nT g)
/-- what holds of the cells also while things go out -/
def wG (g : sm_G) : Prop := zT g ∧ zO g ∧ zC g ∧ (∀ c, c < nC g → sm_in (rA g 27 c) 60) ∧ (∀ t, t < nT g → whyC g t ≠ -1 → bgC g t = -1) ∧ nO g = cnt (fun t => dc (whyC g t ≠ -1)) (nT g) ∧ stOk g ∧ (∀ k, k < nC g → 0 ≤ (rA g 28 k).toInt ∧ (rA g 28 k).toInt ≤ 5) ∧ (∀ k, k < nC g → (rA g 28 k).toInt ≤ 1 → whyC g (tn (rA g 27 k)) = -1)
/-- the cells that going out changes -/
def chg (a : Nat) : Prop := a = 19 ∨ a = 21 ∨ a = 22 ∨ a = 23 ∨ a = 24 ∨ a = 28 ∨ a = 30
/-- how the cells are changed by things that go out, for the why y -/
def gP (g h : sm_G) (y : Int32) : Prop :=
  wG h ∧ (∀ p c, ¬ (p = 15 ∧ c = 810) → rS h p c = rS g p c) ∧ (∀ a, ¬ chg a → rA h a = rA g a) ∧ (∀ a, rL h a = rL g a) ∧ nO g ≤ nO h ∧ (∀ k, k < nO g → rA h 24 k = rA g 24 k) ∧
  (∀ x, rA h 19 x = rA g 19 x ∨ rA h 19 x = sI 0) ∧ (∀ x, x < nT g → whyC h x ≠ whyC g x → whyC g x = -1 ∧ whyC h x = y.toInt) ∧
  (∀ x, x < nT g → whyC h x = -1 → rA h 21 x = rA g 21 x ∧ rA h 22 x = rA g 22 x) ∧ (∀ k, rA h 28 k = rA g 28 k ∨ rA h 28 k = nI 5)
theorem og_S (g : sm_G) (t : Nat) (w y : Int32) (p c : Nat) (h : ¬ (p = 15 ∧ c = 810)) : rS (outG g t w y) p c = rS g p c := by
  unfold outG leaG
  rw [rS_gS, if_neg h]
  simp only [rS_gA, fins_S]
theorem og_L (g : sm_G) (t : Nat) (w y : Int32) (a : Nat) : rL (outG g t w y) a = rL g a := by
  unfold outG leaG
  simp only [rL_gS, rL_gA, fins_L]
theorem og_A (g : sm_G) (t : Nat) (w y : Int32) (a : Nat) (h : ¬ chg a) : rA (outG g t w y) a = rA g a := by
  unfold chg at h
  unfold outG leaG
  simp only [rA_gS, rA_gA]
  rw [if_neg (by omega), if_neg (by omega), if_neg (by omega), if_neg (by omega), if_neg (by omega), fins_A _ _ _ _ (by omega) (by omega)]
theorem og_cells (g : sm_G) (t : Nat) (w y : Int32) : rA (outG g t w y) 19 = upd (rA g 19) t (sI 0) ∧ rA (outG g t w y) 21 = upd (rA g 21) t w ∧ rA (outG g t w y) 22 = upd (rA g 22) t (rS g 0 911) ∧ rA (outG g t w y) 23 = upd (rA g 23) t y ∧ rA (outG g t w y) 24 = upd (rA g 24) (nO g) (nI t) ∧
    rA (outG g t w y) 28 = rA (fins g (fun c => (rA g 27 c).toInt == (t : Int)) (nI 5) (nC g)) 28 ∧ rA (outG g t w y) 30 = rA (fins g (fun c => (rA g 27 c).toInt == (t : Int)) (nI 5) (nC g)) 30 ∧ rS (outG g t w y) 15 810 = nI (nO g + 1) := by
  have f19 := fins_A g (fun c => (rA g 27 c).toInt == (t : Int)) (nI 5) 19 (by decide) (by decide) (nC g)
  have f21 := fins_A g (fun c => (rA g 27 c).toInt == (t : Int)) (nI 5) 21 (by decide) (by decide) (nC g)
  have f22 := fins_A g (fun c => (rA g 27 c).toInt == (t : Int)) (nI 5) 22 (by decide) (by decide) (nC g)
  have f23 := fins_A g (fun c => (rA g 27 c).toInt == (t : Int)) (nI 5) 23 (by decide) (by decide) (nC g)
  have f24 := fins_A g (fun c => (rA g 27 c).toInt == (t : Int)) (nI 5) 24 (by decide) (by decide) (nC g)
  have fO : nO (fins g (fun c => (rA g 27 c).toInt == (t : Int)) (nI 5) (nC g)) = nO g := by simp only [nO, fins_S]
  unfold outG leaG
  simp only [rA_gS, rA_gA, rS_gS, Nat.reduceEqDiff, if_false, if_true, f19, f21, f22, f23, f24, fO, and_self]
theorem og_n (g : sm_G) (t : Nat) (w y : Int32) (z : zO g) : nT (outG g t w y) = nT g ∧ nC (outG g t w y) = nC g ∧ nO (outG g t w y) = nO g + 1 := by
  refine ⟨by simp only [nT]; rw [og_S _ _ _ _ _ _ (by decide)], by simp only [nC]; rw [og_S _ _ _ _ _ _ (by decide)], ?_⟩
  simp only [nO]
  rw [(og_cells g t w y).2.2.2.2.2.2.2]
  have := z.2
  rw [tn_nI (by omega)]; rfl
theorem nO_lt {g : sm_G} (h : wG g) {t : Nat} (ht : t < nT g) (hy : whyC g t = -1) : nO g < nT g := by
  rw [h.2.2.2.2.2.1]
  have := cnt_lt (nT g) (f := fun t => dc (whyC g t ≠ -1)) (h := fun _ => true) (fun _ _ _ => rfl) ⟨t, ht, dc_f.mpr (fun h => h hy), rfl⟩
  have h2 := cnt_le (fun _ => true) (nT g)
  omega
theorem og_gP {g : sm_G} (h : wG g) {t : Nat} {w y : Int32} (ht : t < nT g) (hy : whyC g t = -1) (hy2 : y.toInt ≠ -1) : gP g (outG g t w y) y := by
  have hlt := nO_lt h ht hy
  obtain ⟨zt, zo, zc, h4, h5, h6, h7, h8, h9⟩ := h
  obtain ⟨n1, n2, n3⟩ := og_n g t w y zo
  obtain ⟨c19, c21, c22, c23, c24, c28, c30, cS⟩ := og_cells g t w y
  have hzt := zt.2
  have c27 := og_A g t w y 27 (by unfold chg; omega)
  have wy : ∀ x, whyC (outG g t w y) x = if x = t then y.toInt else whyC g x := fun x => by
    unfold whyC; rw [c23]
    by_cases e : x = t
    · rw [if_pos e, e, pk_us]
    · rw [if_neg e, pk_un e]
  have by2 : ∀ x, bgC (outG g t w y) x = if x = t then -1 else bgC g x := fun x => by
    unfold bgC; rw [c19]
    by_cases e : x = t
    · rw [if_pos e, e, pk_us]; rfl
    · rw [if_neg e, pk_un e]
  refine ⟨⟨?_, ?_, ?_, ?_, ?_, ?_, ?_, ?_, ?_⟩, og_S g t w y, og_A g t w y, og_L g t w y, by omega, fun k hk => by rw [c24, pk_un (by omega)], fun x => ?_, fun x hx hne => ?_, fun x _ hx => ?_, fun k => ?_⟩
  · unfold zT; rw [n1, og_S _ _ _ _ _ _ (by decide)]; exact zt
  · unfold zO; rw [n3, cS]; exact ⟨rfl, by omega⟩
  · unfold zC; rw [n2, og_S _ _ _ _ _ _ (by decide)]; exact zc
  · rw [n2, c27]; exact h4
  · intro x hx; rw [n1] at hx; rw [wy, by2]
    by_cases e : x = t
    · rw [if_pos e, if_pos e]; exact fun _ => rfl
    · rw [if_neg e, if_neg e]; exact h5 x hx
  · rw [n1, n3, h6]
    refine (cnt_flip (c := t) (nT g) ht (dc_t.mpr (by rw [wy, if_pos rfl]; exact hy2)) (dc_f.mpr (fun h => h hy)) (fun i hi hne => ?_)).symm
    show dc _ = dc _
    rw [wy, if_neg hne]
  · have hst := stOk_fins (g := g) (f := fun c => (rA g 27 c).toInt == (t : Int)) (s := nI 5) h7 zc.2 h4 (by decide) (nC g) (Nat.le_refl _)
    intro u hu
    have := hst u hu
    rw [fins_C, fins_A g (fun c => (rA g 27 c).toInt == (t : Int)) (nI 5) 27 (by decide) (by decide) (nC g)] at this
    rw [c30, c28, c27, n2]; exact this
  · intro k hk; rw [n2] at hk; rw [c28, fins_28]
    split
    · decide
    · exact h8 k hk
  · intro k hk hst; rw [n2] at hk; rw [c28, fins_28] at hst; rw [c27]
    by_cases e : k < nC g ∧ ((rA g 27 k).toInt == (t : Int)) = true ∧ (rA g 28 k).toInt ≤ 1
    · rw [if_pos e] at hst; exact absurd hst (by decide)
    · rw [if_neg e] at hst
      have hne : tn (rA g 27 k) ≠ t := fun e2 => e ⟨hk, by
        have := h4 k hk
        unfold sm_in at this
        have : (rA g 27 k).toInt = (t : Int) := by rw [← e2]; unfold tn; omega
        rw [this]; simp, hst⟩
      rw [wy, if_neg hne]; exact h9 k hk hst
  · rw [c19]
    by_cases e : x = t
    · rw [e, pk_us]; exact Or.inr rfl
    · rw [pk_un e]; exact Or.inl rfl
  · rw [wy] at hne ⊢
    by_cases e : x = t
    · rw [if_pos e, e]; exact ⟨hy, rfl⟩
    · rw [if_neg e] at hne; exact absurd rfl hne
  · rw [wy] at hx
    by_cases e : x = t
    · rw [if_pos e] at hx; exact absurd hx hy2
    · rw [c21, c22, pk_un e, pk_un e]; exact ⟨rfl, rfl⟩
  · rw [c28, fins_28]
    split
    · exact Or.inr rfl
    · exact Or.inl rfl
theorem mv_gP {g : sm_G} (h : wG g) {o : Nat} {y : Int32} : gP g (mvS g o) y := by
  obtain ⟨zt, zo, zc, h4, h5, h6, h7, h8, h9⟩ := h
  have c19 : rA (mvS g o) 19 = upd (rA g 19) o (sI 0) := by unfold mvS; rw [rA_gA, if_pos rfl]
  have ca : ∀ a, a ≠ 19 → rA (mvS g o) a = rA g a := fun a ha => by unfold mvS; rw [rA_gA, if_neg ha]
  have wy : ∀ x, whyC (mvS g o) x = whyC g x := fun x => by unfold whyC; rw [ca 23 (by decide)]
  have by2 : ∀ x, bgC (mvS g o) x = bgC g x ∨ bgC (mvS g o) x = -1 := fun x => by
    unfold bgC; rw [c19]
    by_cases e : x = o
    · rw [e, pk_us]; exact Or.inr rfl
    · rw [pk_un e]; exact Or.inl rfl
  refine ⟨⟨zt, zo, zc, ?_, fun x hx hw => ?_, ?_, ?_, ?_, ?_⟩, fun _ _ _ => rfl, fun a ha => ca a (fun e => ha (Or.inl e)), fun _ => rfl, Nat.le_refl _, fun k _ => by rw [ca 24 (by decide)], fun x => ?_, fun x _ hne => absurd (wy x) hne, fun x _ _ => by rw [ca 21 (by decide), ca 22 (by decide)]; exact ⟨rfl, rfl⟩, fun k => Or.inl (by rw [ca 28 (by decide)])⟩
  · rw [ca 27 (by decide)]; exact h4
  · rw [wy] at hw
    rcases by2 x with e | e
    · rw [e]; exact h5 x hx hw
    · exact e
  · show nO g = _
    rw [h6]; exact cnt_congr _ (fun i _ => by show dc _ = dc _; rw [wy])
  · intro u hu; rw [ca 30 (by decide), ca 28 (by decide), ca 27 (by decide)]; exact h7 u hu
  · rw [ca 28 (by decide)]; exact h8
  · intro k hk hst; rw [ca 28 (by decide)] at hst; rw [ca 27 (by decide), wy]; exact h9 k hk hst
  · rw [c19]
    by_cases e : x = o
    · rw [e, pk_us]; exact Or.inr rfl
    · rw [pk_un e]; exact Or.inl rfl
theorem gP_n {g h : sm_G} {y : Int32} (p : gP g h y) : nT h = nT g ∧ nC h = nC g := ⟨by simp only [nT]; rw [p.2.1 15 809 (by decide)], by simp only [nC]; rw [p.2.1 25 205 (by decide)]⟩
theorem gP_rf {g : sm_G} {y : Int32} (h : wG g) : gP g g y := ⟨h, fun _ _ _ => rfl, fun _ _ => rfl, fun _ => rfl, Nat.le_refl _, fun _ _ => rfl, fun _ => Or.inl rfl, fun _ _ h => absurd rfl h, fun _ _ _ => ⟨rfl, rfl⟩, fun _ => Or.inl rfl⟩
theorem gP_tr {g h k : sm_G} {y : Int32} (hy : y.toInt ≠ -1) (a : gP g h y) (b : gP h k y) : gP g k y := by
  obtain ⟨n1, n2⟩ := gP_n a
  obtain ⟨a1, a2, a3, a4, a5, a6, a7, a8, a9, a10⟩ := a
  obtain ⟨b1, b2, b3, b4, b5, b6, b7, b8, b9, b10⟩ := b
  rw [n1] at b8 b9
  have back : ∀ x, x < nT g → whyC k x = -1 → whyC h x = -1 := fun x hx e => by
    by_cases e2 : whyC k x = whyC h x
    · rw [← e2]; exact e
    · exact (b8 x hx e2).1
  refine ⟨b1, fun p c hp => by rw [b2 p c hp, a2 p c hp], fun q hq => by rw [b3 q hq, a3 q hq], fun q => by rw [b4, a4], by omega, fun q hq => by rw [b6 q (by omega), a6 q hq], fun x => ?_, fun x hx hne => ?_, fun x hx hw => ?_, fun q => ?_⟩
  · rcases b7 x with e | e
    · rw [e]; exact a7 x
    · exact Or.inr e
  · by_cases e : whyC h x = whyC g x
    · have := b8 x hx (by rw [e]; exact hne)
      rw [e] at this; exact this
    · have h1 := a8 x hx e
      by_cases e2 : whyC k x = whyC h x
      · rw [e2]; exact h1
      · have h2 := b8 x hx e2
        exact ⟨h1.1, h2.2⟩
  · have h1 := b9 x hx hw
    have h2 := a9 x hx (back x hx hw)
    exact ⟨h1.1.trans h2.1, h1.2.trans h2.2⟩
  · rcases b10 q with e | e
    · rw [e]; exact a10 q
    · exact Or.inr e
/-- what goes out leaves nothing inside -/
def gE (g h : sm_G) : Prop := ∀ x, x < nT g → whyC h x ≠ whyC g x → ∀ z, z < nT g → bgC h z ≠ (x : Int)
theorem gE_tr {g h k : sm_G} {y : Int32} (a : gP g h y) (b : gP h k y) (ea : gE g h) (eb : gE h k) : gE g k := by
  intro x hx hne z hz hb
  have n1 := (gP_n a).1
  have hb2 : bgC h z = (x : Int) := by
    rcases b.2.2.2.2.2.2.1 z with e | e
    · unfold bgC at hb ⊢; rw [e] at hb; exact hb
    · unfold bgC at hb; rw [e, sI_s.1] at hb; omega
  by_cases e : whyC h x = whyC g x
  · exact eb x (by rw [n1]; exact hx) (by rw [e]; exact hne) z (by rw [n1]; exact hz) hb
  · exact ea x hx e z hz hb2
theorem gT_ok : ∀ (f : Nat) (g : sm_G) (t : Nat) (w y : Int32), y.toInt ≠ -1 → wG g → t < nT g → whyC g t = -1 → nT g - nO g ≤ f → gP g (goT f g t w y) y ∧ gE g (goT f g t w y) ∧ bgC (goT f g t w y) t = -1 := by
  intro f
  induction f with
  | zero =>
    intro g t w y _ h ht hw hf
    have := nO_lt h ht hw; omega
  | succ f ih =>
    intro g t w y hy h ht hw hf
    have hlt := nO_lt h ht hw
    have p0 := og_gP (w := w) h ht hw hy
    have n0 := og_n g t w y h.2.1
    have b0 : bgC (outG g t w y) t = -1 := by unfold bgC; rw [(og_cells g t w y).1, pk_us]; rfl
    have w0 : ∀ x, x ≠ t → whyC (outG g t w y) x = whyC g x := fun x hx => by unfold whyC; rw [(og_cells g t w y).2.2.2.1, pk_un hx]
    simp only [goT]
    have scan : ∀ n, n ≤ nT g → gP (outG g t w y) (itr (fun g o => if (rA g 19 o).toInt = (t : Int) then (if 0 < (rA g 30 o).toInt then mvS g o else goT f g o w y) else g) (outG g t w y) n) y ∧ gE (outG g t w y) (itr (fun g o => if (rA g 19 o).toInt = (t : Int) then (if 0 < (rA g 30 o).toInt then mvS g o else goT f g o w y) else g) (outG g t w y) n) ∧
        ∀ z, z < n → bgC (itr (fun g o => if (rA g 19 o).toInt = (t : Int) then (if 0 < (rA g 30 o).toInt then mvS g o else goT f g o w y) else g) (outG g t w y) n) z ≠ (t : Int) := by
      intro n
      induction n with
      | zero => intro _; exact ⟨gP_rf p0.1, fun x _ h => absurd rfl h, fun z h => by omega⟩
      | succ n ihn =>
        intro hn
        obtain ⟨q1, q2, q3⟩ := ihn (by omega)
        simp only [itr]
        generalize hG : itr (fun g o => if (rA g 19 o).toInt = (t : Int) then (if 0 < (rA g 30 o).toInt then mvS g o else goT f g o w y) else g) (outG g t w y) n = G at *
        have m1 := gP_n q1
        have keep : ∀ H, gP G H y → bgC H n ≠ (t : Int) → ∀ z, z < n + 1 → bgC H z ≠ (t : Int) := fun H hp hb z hz => by
          by_cases e : z = n
          · rw [e]; exact hb
          · intro hb2
            rcases hp.2.2.2.2.2.2.1 z with e2 | e2
            · exact q3 z (by omega) (by unfold bgC at hb2 ⊢; rw [e2] at hb2; exact hb2)
            · unfold bgC at hb2; rw [e2, sI_s.1] at hb2; omega
        by_cases hb : (rA G 19 n).toInt = (t : Int)
        · rw [if_pos hb]
          by_cases hs : 0 < (rA G 30 n).toInt
          · rw [if_pos hs]
            have pm := mv_gP (o := n) (y := y) q1.1
            refine ⟨gP_tr hy q1 pm, gE_tr q1 pm q2 (fun x hx hne => absurd (by unfold whyC mvS; rw [rA_gA, if_neg (by decide)]) hne), keep _ pm ?_⟩
            unfold bgC mvS; rw [rA_gA, if_pos rfl, pk_us, sI_s.1]; omega
          · rw [if_neg hs]
            have hwn : whyC G n = -1 := by
              refine Classical.byContradiction (fun hne => ?_)
              have := q1.1.2.2.2.2.1 n (by rw [m1.1, n0.1]; omega) hne
              unfold bgC at this; omega
            have hle := q1.2.2.2.2.1
            obtain ⟨r1, r2, r3⟩ := ih G n w y hy q1.1 (by rw [m1.1, n0.1]; omega) hwn (by rw [m1.1, n0.1]; omega)
            exact ⟨gP_tr hy q1 r1, gE_tr q1 r1 q2 r2, keep _ r1 (by rw [r3]; omega)⟩
        · rw [if_neg hb]
          exact ⟨q1, q2, keep G (gP_rf q1.1) hb⟩
    obtain ⟨q1, q2, q3⟩ := scan (nT g) (Nat.le_refl _)
    refine ⟨gP_tr hy p0 q1, fun x hx hne z hz => ?_, ?_⟩
    · by_cases e : x = t
      · rw [e]; exact q3 z hz
      · exact q2 x (by rw [n0.1]; exact hx) (by rw [w0 x e]; exact hne) z (by rw [n0.1]; exact hz)
    · rcases q1.2.2.2.2.2.2.1 t with e | e
      · unfold bgC at b0 ⊢; rw [e]; exact b0
      · unfold bgC; rw [e]; rfl
theorem iv_wG {g : sm_G} (h : iv g) : wG g := by
  obtain ⟨zq, zr, zt, zo, zc⟩ := iv_z h
  refine ⟨zt, zo, zc, fun c hc => ?_, h.2.2.1.2.2.2.2.2.2.1, h.2.2.1.2.2.2.2.2.2.2.2.2, h.2.2.2.2.2.2, fun k hk => ⟨(h.2.2.2.2.2.1 k hk).2.2.1, (h.2.2.2.2.2.1 k hk).2.2.2.1⟩, fun k hk => (h.2.2.2.2.2.1 k hk).2.2.2.2⟩
  obtain ⟨_, ⟨t, t1, t2⟩, _⟩ := h.2.2.2.2.2.1 c hc
  have := zt.2
  rw [t2]; unfold sm_in; rw [nI_t (by omega)]; omega
/-- what always holds still holds behind things that went out -/
theorem gP_iv {g h : sm_G} {y : Int32} (hi : iv g) (hy : 1 ≤ y.toInt ∧ y.toInt ≤ 4) (p : gP g h y) (e : gE g h) : iv h := by
  obtain ⟨n1, n2⟩ := gP_n p
  have zz := iv_z hi
  obtain ⟨iQ, iR, iT, iC⟩ := hi
  have eS := p.2.1
  have eA := p.2.2.1
  have nq : nQ h = nQ g := by simp only [nQ]; rw [eS _ _ (by decide)]
  have nr : nR h = nR g := by simp only [nR]; rw [eS _ _ (by decide)]
  have a2 := eA 2 (by unfold chg; omega)
  have a3 := eA 3 (by unfold chg; omega)
  have a4 := eA 4 (by unfold chg; omega)
  have a7 := eA 7 (by unfold chg; omega)
  have a8 := eA 8 (by unfold chg; omega)
  have a10 := eA 10 (by unfold chg; omega)
  have a11 := eA 11 (by unfold chg; omega)
  have a14 := eA 14 (by unfold chg; omega)
  have a16 := eA 16 (by unfold chg; omega)
  have a17 := eA 17 (by unfold chg; omega)
  have a18 := eA 18 (by unfold chg; omega)
  have a26 := eA 26 (by unfold chg; omega)
  have a27 := eA 27 (by unfold chg; omega)
  have a29 := eA 29 (by unfold chg; omega)
  have a85 := eA 85 (by unfold chg; omega)
  have a86 := eA 86 (by unfold chg; omega)
  have an6 : ∀ x q, anC h 6 x q = anC g 6 x q := fun x q => by unfold anC; simp only [Nat.reduceAdd, Nat.reduceDiv]; rw [a85, a8]
  have an9 : ∀ x q, anC h 9 x q = anC g 9 x q := fun x q => by unfold anC; simp only [Nat.reduceAdd, Nat.reduceDiv]; rw [a86, a11]
  refine ⟨⟨?_, ?_⟩, ⟨?_, ?_, ?_, ?_, ?_, ?_⟩, ⟨p.1.1, p.1.2.1, ?_, ?_, ?_, ?_, p.1.2.2.2.2.1, ?_, ?_, p.1.2.2.2.2.2.1⟩, ⟨p.1.2.2.1, ?_, ?_, p.1.2.2.2.2.2.2.1⟩⟩
  · unfold zQ; rw [nq, eS _ _ (by decide)]; exact iQ.1
  · rw [nq, a2, a3, a4]; exact iQ.2
  · have := iR.1
    simp only [wL, Nat.reduceAdd, Nat.reduceDiv] at this ⊢; rw [nq, a7, a8, a85]; exact this
  · have := iR.2.1
    simp only [wL, Nat.reduceAdd, Nat.reduceDiv] at this ⊢; rw [nq, a10, a11, a86]; exact this
  · intro x q hx hq; rw [an6, a2, a3]; exact iR.2.2.1 x q hx hq
  · intro x q hx hq; rw [an9, a2, a3]; exact iR.2.2.2.1 x q hx hq
  · unfold zR; rw [nr, eS _ _ (by decide)]; exact iR.2.2.2.2.1
  · rw [a14]; exact iR.2.2.2.2.2
  · rw [a18]; exact iT.2.2.1
  · rw [n1, a16, a17]; exact iT.2.2.2.1
  · intro t ht; rw [n1] at ht
    by_cases e2 : whyC h t = whyC g t
    · rw [e2]; exact iT.2.2.2.2.1 t ht
    · have := (p.2.2.2.2.2.2.2.1 t ht e2).2
      rw [this]; exact Or.inr hy
  · intro t ht; rw [n1] at ht
    rcases p.2.2.2.2.2.2.1 t with e2 | e2
    · rcases iT.2.2.2.2.2.1 t ht with h2 | ⟨b, b1, b2, b3, b4⟩
      · exact Or.inl (by unfold bgC at h2 ⊢; rw [e2]; exact h2)
      · refine Or.inr ⟨b, by rw [n1]; exact b1, by rw [e2]; exact b2, by rw [a16]; exact b3, ?_⟩
        by_cases e3 : whyC h b = whyC g b
        · rw [e3]; exact b4
        · have hzt := zz.2.2.1.2
          exact absurd (by unfold bgC; rw [e2, b2, nI_t (by omega)]) (e b b1 e3 t ht)
    · exact Or.inl (by unfold bgC; rw [e2]; rfl)
  · intro t ht hw; rw [n1] at ht
    have hwg : whyC g t = -1 := by
      by_cases e2 : whyC h t = whyC g t
      · rw [← e2]; exact hw
      · exact (p.2.2.2.2.2.2.2.1 t ht e2).1
    have := p.2.2.2.2.2.2.2.2.1 t ht hw
    rw [this.1, this.2]; exact iT.2.2.2.2.2.2.2.1 t ht hwg
  · obtain ⟨rk, hrk⟩ := iT.2.2.2.2.2.2.2.2.1
    refine ⟨rk, fun t ht hb => ?_⟩
    rw [n1] at ht
    rcases p.2.2.2.2.2.2.1 t with e2 | e2
    · rw [e2]; exact hrk t ht (by unfold bgC at hb ⊢; rw [e2] at hb; exact hb)
    · exact absurd (by unfold bgC; rw [e2]; rfl) hb
  · rw [a29]; exact iC.2.1
  · intro k hk; rw [n2] at hk
    obtain ⟨x1, x2, x3⟩ := iC.2.2.1 k hk
    rw [a26, a27, nr, n1]
    have q1 := p.1.2.2.2.2.2.2.2.1 k (by rw [n2]; exact hk)
    have q2 := p.1.2.2.2.2.2.2.2.2 k (by rw [n2]; exact hk)
    rw [a27] at q2
    exact ⟨x1, x2, q1.1, q1.2, q2⟩

