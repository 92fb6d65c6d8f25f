/-! The reference: things go out. -/
/-- what holds a thing is a bag -/
def bgK (c : sm_G) : Prop := ∀ x, x < nT c → bgC c x ≠ -1 → ∃ b, b < nT c ∧ rA c 19 x = nI b ∧ (rA c 16 b).toInt = 1
/-- the coupling, also while things go out -/
def cpW (c g : sm_G) : Prop := wG c ∧ bgK c ∧ cpQ c g ∧ cpR c g ∧ cpT c g ∧ cpC c g
theorem CP_cpW {c g : sm_G} (h : CP c g) : cpW c g := by
  refine ⟨iv_wG h.1, fun x hx hb => ?_, h.2⟩
  rcases h.1.2.2.1.2.2.2.2.2.1 x hx with e | ⟨b, b1, b2, b3, _⟩
  · exact absurd e hb
  · exact ⟨b, b1, b2, b3⟩
theorem cpW_CP {c g : sm_G} (h : cpW c g) (hi : iv c) : CP c g := ⟨hi, h.2.2⟩
theorem cpQR_fr {c D : sm_G} {y : Int32} (g : sm_G) (p : gP c D y) : cpQ D g = cpQ c g ∧ cpR D g = cpR c g := by
  obtain ⟨_, s, a, l, _⟩ := p
  have n1 : nQ D = nQ c := by simp only [nQ]; rw [s 1 504 (by decide)]
  have n2 : nR D = nR c := by simp only [nR]; rw [s 12 602 (by decide)]
  have a2 := a 2 (by unfold chg; omega)
  have a3 := a 3 (by unfold chg; omega)
  have a4 := a 4 (by unfold chg; omega)
  have a7 := a 7 (by unfold chg; omega)
  have a8 := a 8 (by unfold chg; omega)
  have a10 := a 10 (by unfold chg; omega)
  have a11 := a 11 (by unfold chg; omega)
  have a13 := a 13 (by unfold chg; omega)
  have a14 := a 14 (by unfold chg; omega)
  have a85 := a 85 (by unfold chg; omega)
  have a86 := a 86 (by unfold chg; omega)
  constructor
  · unfold cpQ; simp only [n1, a2, a3, a4, l]
  · unfold cpR; simp only [n2, anC, Nat.reduceAdd, Nat.reduceDiv, a85, a86, a7, a8, a10, a11, a13, a14]
theorem cpW_zM {c g : sm_G} (h : cpW c g) : zM g ∧ mC g = nC c := by
  have e := h.2.2.2.2.2.1
  have hn := h.1.2.2.1.2
  have : mC g = nC c := by unfold mC; rw [e, tn_nI (by omega)]
  exact ⟨⟨by rw [this]; exact e, by omega⟩, this⟩
theorem cpW_stM {c g : sm_G} (h : cpW c g) {k : Nat} (hk : k < nC c) : stM g k ↔ (rA c 28 k).toInt ≤ 1 := by
  have e := h.2.2.2.2.2.2.2.2.1 k hk
  have := (h.1.2.2.2.2.2.2.2.1 k hk).1
  unfold stM; rw [e]; omega
theorem cpW_stand {c g : sm_G} (h : cpW c g) {t : Nat} (ht : t < 60) : nI (cnt (fun k => dc (stM g k ∧ (rA g 81 k).toInt = (t : Int))) (mC g)) = rA c 30 t := by
  rw [h.1.2.2.2.2.2.2.1 t ht, (cpW_zM h).2]
  refine congrArg nI (cnt_congr _ (fun k hk => ?_))
  show dc _ = dc _
  have e := h.2.2.2.2.2.2.2.1 k hk
  rw [e]
  have := cpW_stM h hk
  by_cases a : stM g k ∧ (rA c 27 k).toInt = (t : Int)
  · rw [dc_t.mpr a, dc_t.mpr ⟨this.mp a.1, a.2⟩]
  · rw [dc_f.mpr a, dc_f.mpr (fun b => a ⟨this.mpr b.1, b.2⟩)]
def outM (g : sm_G) (t : Nat) (w d y : Int32) (n : Nat) (F : Nat → Int32) : sm_G := gS (gA (gA (gA (gA (gA (gA (gA g 63 (upd (rA g 63) t (nI 2))) 64 (upd (rA g 64) t (sI 0))) 66 (upd (rA g 66) t w)) 67 (upd (rA g 67) t d)) 68 (upd (rA g 68) t y)) 82 F) 84 (upd (rA g 84) n (nI t))) 53 1041 (nI (n + 1))
theorem outM_ms (g : sm_G) (t : Nat) (w d y : Int32) (n : Nat) (F : Nat → Int32) : mS g (outM g t w d y n F) := mS_S (mS_A (mS_A (mS_A (mS_A (mS_A (mS_A (mS_A (mS_rf g) (by omega)) (by omega)) (by omega)) (by omega)) (by omega)) (by omega)) (by omega))
theorem cpW_out {c g : sm_G} {t : Nat} {w y : Int32} {F : Nat → Int32} (h : cpW c g) (ht : t < nT c) (hy : whyC c t = -1) (hy2 : y.toInt ≠ -1) (hF : ∀ k, k < nC c → F k = if (rA c 27 k).toInt = (t : Int) ∧ (rA c 28 k).toInt ≤ 1 then nI 5 else rA c 28 k) : cpW (outG c t w y) (outM g t w (rS c 0 911) y (nO c) F) := by
  obtain ⟨hw, hk, cq, cr, ct, cc⟩ := h
  have p0 := og_gP (w := w) hw ht hy hy2
  obtain ⟨n3, n5, n4⟩ := og_n c t w y hw.2.1
  obtain ⟨c19, c21, c22, c23, c24, c28, c30, _⟩ := og_cells c t w y
  have sS := p0.2.1
  have aS := p0.2.2.1
  have a16 := aS 16 (by unfold chg; omega)
  have a17 := aS 17 (by unfold chg; omega)
  have a18 := aS 18 (by unfold chg; omega)
  have a20 := aS 20 (by unfold chg; omega)
  have a26 := aS 26 (by unfold chg; omega)
  have a27 := aS 27 (by unfold chg; omega)
  have a29 := aS 29 (by unfold chg; omega)
  have a50 := aS 50 (by unfold chg; omega)
  have s9 := sS 0 911 (by decide)
  refine ⟨p0.1, fun x hx hb => ?_, ?_, ?_, ?_, ?_⟩
  · by_cases e : x = t
    · exact absurd (by unfold bgC; rw [c19, e, pk_us]; rfl) hb
    · unfold bgC at hb
      rw [c19, pk_un e] at hb
      obtain ⟨b, b1, b2, b3⟩ := hk x (by omega) hb
      exact ⟨b, by omega, by rw [c19, pk_un e]; exact b2, by rw [a16]; exact b3⟩
  · rw [(cpQR_fr _ p0).1]; exact cq
  · rw [(cpQR_fr _ p0).2]; exact cr
  · obtain ⟨t1, t2, t3, t4, t5, t6, t7, t8, t9, t10, t11, t12, t13⟩ := ct
    refine ⟨by rw [n3]; exact t1, by rw [s9]; exact t2, fun x hx => by rw [a16]; exact t3 x (by omega), fun x hx => by rw [a17]; exact t4 x (by omega), fun x hx => by rw [a18]; exact t5 x (by omega), fun x hx => ?_, fun x hx => ?_, fun x hx => by rw [a20]; exact t8 x (by omega), fun x hx hwx => ?_, fun x hx hx2 => t10 x (by omega) hx2, fun k hk => by rw [a50]; exact t11 k hk, by rw [n4]; rfl, fun k hk9 => ?_⟩
    · show upd (rA g 63) t (nI 2) x = _
      by_cases e : x = t
      · have : whyC (outG c t w y) x ≠ -1 := by unfold whyC; rw [c23, e, pk_us]; exact hy2
        rw [((whC_c (outG c t w y) x).2.1).mpr this, e, pk_us]
      · rw [pk_un e, t6 x (by omega)]
        unfold whC; rw [c23, c19, pk_un e, pk_un e]
    · show upd (rA g 64) t (sI 0) x = _
      rw [c19]
      by_cases e : x = t
      · rw [e, pk_us, pk_us]
      · rw [pk_un e, pk_un e]; exact t7 x (by omega)
    · show upd (rA g 66) t w x = _ ∧ upd (rA g 67) t (rS c 0 911) x = _ ∧ upd (rA g 68) t y x = _
      rw [c21, c22, c23]
      by_cases e : x = t
      · rw [e, pk_us, pk_us, pk_us, pk_us, pk_us, pk_us]; exact ⟨rfl, rfl, rfl⟩
      · unfold whyC at hwx
        rw [c23, pk_un e] at hwx
        rw [pk_un e, pk_un e, pk_un e, pk_un e, pk_un e, pk_un e]
        exact t9 x (by omega) hwx
    · show upd (rA g 84) (nO c) (nI t) k = _
      rw [c24]
      by_cases e : k = nO c
      · rw [e, pk_us, pk_us]
      · rw [pk_un e, pk_un e]; exact t13 k (by omega)
  · obtain ⟨d1, d2, d3, d4, d5, d6⟩ := cc
    refine ⟨by rw [n5]; exact d1, fun k hk => by rw [a26]; exact d2 k (by omega), fun k hk => by rw [a27]; exact d3 k (by omega), fun k hk => ?_, fun k hk => by rw [a29]; exact d5 k (by omega), fun k hk hk2 => d6 k (by omega) hk2⟩
    show F k = _
    rw [hF k (by omega), c28, fins_28]
    by_cases e : (rA c 27 k).toInt = (t : Int) ∧ (rA c 28 k).toInt ≤ 1
    · rw [if_pos e, if_pos ⟨by omega, by rw [e.1]; simp, e.2⟩]
    · rw [if_neg e, if_neg (fun a => e ⟨by simpa using a.2.1, a.2.2⟩)]
theorem cpW_mv {c g : sm_G} {o : Nat} (h : cpW c g) (hy : whyC c o = -1) : cpW (mvS c o) (gA (gA g 63 (upd (rA g 63) o (nI 0))) 64 (upd (rA g 64) o (sI 0))) := by
  obtain ⟨hw, hk, cq, cr, ct, cc⟩ := h
  have p0 := mv_gP (o := o) (y := nI 1) hw
  have c19 : rA (mvS c o) 19 = upd (rA c 19) o (sI 0) := by unfold mvS; rw [rA_gA, if_pos rfl]
  refine ⟨p0.1, fun x hx hb => ?_, ?_, ?_, ?_, cc⟩
  · by_cases e : x = o
    · exact absurd (by unfold bgC; rw [c19, e, pk_us]; rfl) hb
    · unfold bgC at hb
      rw [c19, pk_un e] at hb
      obtain ⟨b, b1, b2, b3⟩ := hk x hx hb
      exact ⟨b, b1, by rw [c19, pk_un e]; exact b2, b3⟩
  · rw [(cpQR_fr _ p0).1]; exact cq
  · rw [(cpQR_fr _ p0).2]; exact cr
  · obtain ⟨t1, t2, t3, t4, t5, t6, t7, t8, t9, t10, t11, t12, t13⟩ := ct
    refine ⟨t1, t2, t3, t4, t5, fun x hx => ?_, fun x hx => ?_, t8, t9, t10, t11, t12, t13⟩
    · show upd (rA g 63) o (nI 0) x = _
      by_cases e : x = o
      · have h1 : whyC (mvS c o) x = -1 := by rw [e]; exact hy
        have h2 : bgC (mvS c o) x = -1 := by unfold bgC; rw [c19, e, pk_us]; rfl
        rw [((whC_c (mvS c o) x).2.2.1).mpr ⟨h1, h2⟩, e, pk_us]
      · rw [pk_un e, t6 x hx]
        unfold whC; rw [c19, pk_un e]; rfl
    · show upd (rA g 64) o (sI 0) x = _
      rw [c19]
      by_cases e : x = o
      · rw [e, pk_us, pk_us]
      · rw [pk_un e, pk_un e]; exact t7 x hx
theorem itr_id {step : sm_G → Nat → sm_G} {g : sm_G} : ∀ n, (∀ o, o < n → step g o = g) → itr step g n = g := by
  intro n
  induction n with
  | zero => intro _; rfl
  | succ n ih => intro h; simp only [itr]; rw [ih (fun o ho => h o (by omega)), h n (by omega)]

