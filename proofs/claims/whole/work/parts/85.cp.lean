/-! The coupling speaks of few cells on either side. -/
/-- alike in the class's cells, but for scratch -/
def eqK (g h : sm_G) : Prop := (∀ p c, p < 53 → p ≠ 33 → p ≠ 34 → p ≠ 46 → rS h p c = rS g p c) ∧ (∀ a, a ≤ 31 ∨ a = 50 ∨ 85 ≤ a → rA h a = rA g a) ∧ (∀ a, a ≤ 31 → rL h a = rL g a)
/-- alike in the reference's cells -/
def mR (g h : sm_G) : Prop := (∀ k, rS h 53 k = rS g 53 k) ∧ (∀ a, 53 ≤ a → a < 85 → rA h a = rA g a) ∧ (∀ a, 53 ≤ a → a < 85 → rL h a = rL g a)
theorem eqK_rf (g : sm_G) : eqK g g := ⟨fun _ _ _ _ _ _ => rfl, fun _ _ => rfl, fun _ _ => rfl⟩
theorem mR_rf (g : sm_G) : mR g g := ⟨fun _ => rfl, fun _ _ _ => rfl, fun _ _ _ => rfl⟩
theorem eqK_tr {g h k : sm_G} (a : eqK g h) (b : eqK h k) : eqK g k := ⟨fun p c h1 h2 h3 h4 => (b.1 p c h1 h2 h3 h4).trans (a.1 p c h1 h2 h3 h4), fun x hx => (b.2.1 x hx).trans (a.2.1 x hx), fun x hx => (b.2.2 x hx).trans (a.2.2 x hx)⟩
theorem mR_tr {g h k : sm_G} (a : mR g h) (b : mR h k) : mR g k := ⟨fun c => (b.1 c).trans (a.1 c), fun x h1 h2 => (b.2.1 x h1 h2).trans (a.2.1 x h1 h2), fun x h1 h2 => (b.2.2 x h1 h2).trans (a.2.2 x h1 h2)⟩
theorem eqS_K {g h : sm_G} (e : eqS g h) : eqK g h ∧ mR g h := ⟨⟨fun p c _ h2 h3 h4 => e.1 p c h2 h3 h4, fun a ha => e.2.1 a (by omega), fun a ha => e.2.2 a (Or.inl ha)⟩, ⟨fun k => e.1 53 k (by omega) (by omega) (by omega), fun a h1 _ => e.2.1 a (by omega), fun a h1 _ => e.2.2 a (by omega)⟩⟩
theorem mS_K {g h : sm_G} (e : mS g h) : eqK g h := ⟨fun p c h1 _ _ _ => e.1 p c (by omega), fun a ha => e.2.1 a (by omega), fun a ha => e.2.2 a (by omega)⟩
theorem mR_A {g h : sm_G} {k : Nat} {f : Nat → Int32} (e : mR g h) (hk : k < 53 ∨ 85 ≤ k) : mR g (gA h k f) := ⟨e.1, fun a h1 h2 => by rw [rA_gA, if_neg (by omega)]; exact e.2.1 a h1 h2, e.2.2⟩
theorem mR_L {g h : sm_G} {k : Nat} {f : Nat → Int64} (e : mR g h) (hk : k < 53) : mR g (gL h k f) := ⟨e.1, e.2.1, fun a h1 h2 => by rw [rL_gL, if_neg (by omega)]; exact e.2.2 a h1 h2⟩
theorem mR_S {g h : sm_G} {p k : Nat} {v : Int32} (e : mR g h) (hp : p < 53) : mR g (gS h p k v) := ⟨fun c => by rw [rS_gS, if_neg (by omega)]; exact e.1 c, e.2.1, e.2.2⟩
theorem eqK_51 {g h : sm_G} {f f2 : Nat → Int32} (e : eqK g h) : eqK g (gA (gA h 51 f) 52 f2) := ⟨e.1, fun a ha => by rw [rA_gA, if_neg (by omega), rA_gA, if_neg (by omega)]; exact e.2.1 a ha, e.2.2⟩
theorem eqK_n {g h : sm_G} (e : eqK g h) : nQ h = nQ g ∧ nR h = nR g ∧ nT h = nT g ∧ nO h = nO g ∧ nC h = nC g ∧ rS h 1 504 = rS g 1 504 ∧ rS h 12 602 = rS g 12 602 ∧ rS h 15 809 = rS g 15 809 ∧ rS h 15 810 = rS g 15 810 ∧ rS h 25 205 = rS g 25 205 ∧ rS h 0 911 = rS g 0 911 := by
  have q1 := e.1 1 504 (by omega) (by omega) (by omega) (by omega)
  have q2 := e.1 12 602 (by omega) (by omega) (by omega) (by omega)
  have q3 := e.1 15 809 (by omega) (by omega) (by omega) (by omega)
  have q4 := e.1 15 810 (by omega) (by omega) (by omega) (by omega)
  have q5 := e.1 25 205 (by omega) (by omega) (by omega) (by omega)
  have q6 := e.1 0 911 (by omega) (by omega) (by omega) (by omega)
  refine ⟨by simp only [nQ, q1], by simp only [nR, q2], by simp only [nT, q3], by simp only [nO, q4], by simp only [nC, q5], q1, q2, q3, q4, q5, q6⟩
theorem eqK_an {g h : sm_G} (e : eqK g h) : (∀ x q, anC h 6 x q = anC g 6 x q) ∧ (∀ x q, anC h 9 x q = anC g 9 x q) := by
  have a8 := e.2.1 8 (by omega)
  have a11 := e.2.1 11 (by omega)
  have a85 := e.2.1 85 (by omega)
  have a86 := e.2.1 86 (by omega)
  refine ⟨fun x q => ?_, fun x q => ?_⟩
  · unfold anC; simp only [Nat.reduceAdd, Nat.reduceDiv]; rw [a85, a8]
  · unfold anC; simp only [Nat.reduceAdd, Nat.reduceDiv]; rw [a86, a11]
theorem eqK_iv {g h : sm_G} (e : eqK g h) : iv h = iv g := by
  obtain ⟨n1, n2, n3, n4, n5, q1, q2, q3, q4, q5, q6⟩ := eqK_n e
  obtain ⟨an6, an9⟩ := eqK_an e
  have a2 := e.2.1 2 (by omega)
  have a3 := e.2.1 3 (by omega)
  have a4 := e.2.1 4 (by omega)
  have a7 := e.2.1 7 (by omega)
  have a10 := e.2.1 10 (by omega)
  have a14 := e.2.1 14 (by omega)
  have a16 := e.2.1 16 (by omega)
  have a17 := e.2.1 17 (by omega)
  have a18 := e.2.1 18 (by omega)
  have a19 := e.2.1 19 (by omega)
  have a21 := e.2.1 21 (by omega)
  have a22 := e.2.1 22 (by omega)
  have a23 := e.2.1 23 (by omega)
  have a26 := e.2.1 26 (by omega)
  have a27 := e.2.1 27 (by omega)
  have a28 := e.2.1 28 (by omega)
  have a29 := e.2.1 29 (by omega)
  have a30 := e.2.1 30 (by omega)
  have a8 := e.2.1 8 (by omega)
  have a11 := e.2.1 11 (by omega)
  have a85 := e.2.1 85 (by omega)
  have a86 := e.2.1 86 (by omega)
  simp only [iv, ivQ, ivR, ivT, ivC, zQ, zR, zT, zO, zC, wL, whyC, bgC, Nat.reduceAdd, Nat.reduceDiv, a8, a11, a85, a86, n1, n2, n3, n4, n5, q1, q2, q3, q4, q5, an6, an9, a2, a3, a4, a7, a10, a14, a16, a17, a18, a19, a21, a22, a23, a26, a27, a28, a29, a30]
theorem CP_eqK {c d g : sm_G} (e : eqK c d) (h : CP c g) : CP d g := by
  obtain ⟨i, cq, cr, ct, cc⟩ := h
  obtain ⟨n1, n2, n3, n4, n5, q1, q2, q3, q4, q5, q6⟩ := eqK_n e
  obtain ⟨an6, an9⟩ := eqK_an e
  have a2 := e.2.1 2 (by omega)
  have a3 := e.2.1 3 (by omega)
  have a4 := e.2.1 4 (by omega)
  have a7 := e.2.1 7 (by omega)
  have a10 := e.2.1 10 (by omega)
  have a13 := e.2.1 13 (by omega)
  have a14 := e.2.1 14 (by omega)
  have a16 := e.2.1 16 (by omega)
  have a17 := e.2.1 17 (by omega)
  have a18 := e.2.1 18 (by omega)
  have a19 := e.2.1 19 (by omega)
  have a20 := e.2.1 20 (by omega)
  have a21 := e.2.1 21 (by omega)
  have a22 := e.2.1 22 (by omega)
  have a23 := e.2.1 23 (by omega)
  have a24 := e.2.1 24 (by omega)
  have a26 := e.2.1 26 (by omega)
  have a27 := e.2.1 27 (by omega)
  have a28 := e.2.1 28 (by omega)
  have a29 := e.2.1 29 (by omega)
  have a50 := e.2.1 50 (by omega)
  have l5 := e.2.2 5 (by omega)
  refine ⟨by rw [eqK_iv e]; exact i, ?_, ?_, ?_, ?_⟩
  · unfold cpQ at cq ⊢
    simp only [n1, a2, a3, a4, l5]; exact cq
  · unfold cpR at cr ⊢
    simp only [n2, an6, an9, a7, a10, a13, a14]; exact cr
  · unfold cpT at ct ⊢
    simp only [whC, whyC] at ct
    simp only [n3, n4, q6, whC, whyC, a16, a17, a18, a19, a20, a21, a22, a23, a24, a50]; exact ct
  · unfold cpC at cc ⊢
    simp only [n5, a26, a27, a28, a29]; exact cc
theorem CP_mR {c g h : sm_G} (e : mR g h) (hc : CP c g) : CP c h := by
  obtain ⟨i, cq, cr, ct, cc⟩ := hc
  have s := e.1
  have a : ∀ x, 53 ≤ x ∧ x < 85 → rA h x = rA g x := fun x hx => e.2.1 x hx.1 hx.2
  refine ⟨i, ?_, ?_, ?_, ?_⟩
  · unfold cpQ at cq ⊢
    simp only [s, a 54 (by omega), a 55 (by omega), a 56 (by omega), a 57 (by omega)]; exact cq
  · unfold cpR at cr ⊢
    simp only [s, a 58 (by omega), a 59 (by omega), a 69 (by omega), a 70 (by omega)]; exact cr
  · unfold cpT at ct ⊢
    simp only [s, a 60 (by omega), a 61 (by omega), a 62 (by omega), a 63 (by omega), a 64 (by omega), a 65 (by omega), a 66 (by omega), a 67 (by omega), a 68 (by omega), a 71 (by omega), a 84 (by omega)]; exact ct
  · unfold cpC at cc ⊢
    simp only [s, a 80 (by omega), a 81 (by omega), a 82 (by omega), a 83 (by omega)]; exact cc
/-- behind both calls the state is whole again -/
theorem LI_of {c u h : sm_G} (e : eqK c u) (m : mS u h) (hc : CP c h) : CP h h := CP_eqK (eqK_tr e (mS_K m)) hc
/-- a call of the class and one of the reference answer alike -/
def coop (sx sm : sm_SP) (As : List Value) : Prop := ∀ g, CP g g → sx (.ref 0 :: As) g (fun v u => ∃ x, v = some (.int x) ∧ sm (.ref 53 :: As) u (fun v2 u2 => v2 = some (.int x) ∧ CP u2 u2))
theorem goT_mR : ∀ (f : Nat) (g : sm_G) (t : Nat) (w y : Int32), mR g (goT f g t w y) := by
  intro f
  induction f with
  | zero => intro g t w y; exact mR_rf g
  | succ f ih =>
    intro g t w y
    have h0 : mR g (outG g t w y) := ⟨fun k => og_S g t w y 53 k (by omega), fun a h1 _ => og_A g t w y a (by unfold chg; omega), fun a _ _ => og_L g t w y a⟩
    simp only [goT]
    have : ∀ n, mR g (itr (fun g o => if (rA g 19 o).toInt = (t : Int) then (if 0 < (rA g 30 o).toInt then mvS g o else goT f g o w y) else g) (outG g t w y) n) := by
      intro n
      induction n with
      | zero => exact h0
      | succ n ihn =>
        simp only [itr]
        generalize itr (fun g o => if (rA g 19 o).toInt = (t : Int) then (if 0 < (rA g 30 o).toInt then mvS g o else goT f g o w y) else g) (outG g t w y) n = G at ihn ⊢
        split
        · split
          · exact mR_A ihn (by omega)
          · exact mR_tr ihn (ih _ _ _ _)
        · exact ihn
    exact this _
theorem rip_mR (g : sm_G) (t : Nat) : mR g (ripG g t) := by
  unfold ripG
  have h0 : mR g (gA g 20 (upd (rA g 20) t (rA g 20 t + nI 1))) := mR_A (mR_rf g) (by omega)
  split
  · split
    · exact mR_tr h0 (goT_mR _ _ _ _ _)
    · exact mR_tr h0 (goT_mR _ _ _ _ _)
  · exact h0
theorem pass_mR (g : sm_G) : mR g (passG g) := by
  unfold passG
  have : ∀ n, mR g (itr (fun g t => if dc (whyC g t = -1 ∧ bgC g t = -1 ∧ (rA g 30 t).toInt = 0) = true then ripG g t else g) (gS g 0 911 (rS g 0 911 + nI 1)) n) := by
    intro n
    induction n with
    | zero => exact mR_S (mR_rf g) (by omega)
    | succ n ih =>
      simp only [itr]
      generalize itr (fun g t => if dc (whyC g t = -1 ∧ bgC g t = -1 ∧ (rA g 30 t).toInt = 0) = true then ripG g t else g) (gS g 0 911 (rS g 0 911 + nI 1)) n = G at ih ⊢
      split
      · exact mR_tr ih (rip_mR G n)
      · exact ih
  exact this _
theorem day_mR (g : sm_G) : ∀ n, mR g (dayG g n) := by
  intro n
  induction n with
  | zero => exact mR_rf g
  | succ n ih => exact mR_tr ih (pass_mR _)
theorem fin_mR (g : sm_G) (k : Nat) (s : Int32) : mR g (fin g k s) := ⟨fun c => fin_S g k s 53 c, fun a h1 _ => fin_A g k s a (by omega) (by omega), fun a _ _ => by rw [fin_L]⟩
theorem fins_mR (g : sm_G) (f : Nat → Bool) (s : Int32) : ∀ n, mR g (fins g f s n) := by
  intro n
  induction n with
  | zero => exact mR_rf g
  | succ n ih =>
    simp only [fins]
    split
    · exact mR_tr ih (fin_mR _ _ _)
    · exact ih
theorem give_mR (g : sm_G) (k : Nat) : mR g (giveG g k) := by
  unfold giveG givA
  exact mR_tr (mR_tr (mR_A (fin_mR g k _) (by omega)) (fins_mR _ _ _ _)) (goT_mR _ _ _ _ _)

