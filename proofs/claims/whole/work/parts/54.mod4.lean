/-! The reference: things, reports, rows. -/
def tAddG (c : sm_G) (k f w b : Int32) : sm_G := gS (gA (gA (gA (gA (gA (gA (gA (gA c 16 (upd (rA c 16) (nT c) k)) 17 (upd (rA c 17) (nT c) f)) 18 (upd (rA c 18) (nT c) w)) 19 (upd (rA c 19) (nT c) b)) 20 (upd (rA c 20) (nT c) (nI 0))) 21 (upd (rA c 21) (nT c) (sI 0))) 22 (upd (rA c 22) (nT c) (sI 0))) 23 (upd (rA c 23) (nT c) (sI 0))) 15 809 (nI (nT c + 1))
def rAddG (c : sm_G) (w : Int32) : sm_G := gS (gA (gA c 13 (upd (rA c 13) (nR c) w)) 14 (upd (rA c 14) (nR c) (nI 1))) 12 602 (nI (nR c + 1))
theorem rAdd_n (c : sm_G) (w : Int32) (h : nR c < 60) : nR (rAddG c w) = nR c + 1 := by unfold rAddG; simp (disch := omega) only [n_up, if_true, true_and, tn_nI]
theorem tAdd_n (c : sm_G) (k f w b : Int32) (h : nT c < 60) : nT (tAddG c k f w b) = nT c + 1 := by unfold tAddG; simp (disch := omega) only [n_up, if_true, true_and, tn_nI]
theorem iv_rAdd {c : sm_G} (h : iv c) {w : Int32} (hn : nR c < 60) : iv (rAddG c w) := by
  have en := rAdd_n c w hn
  obtain ⟨iQ, iR, iT, iC⟩ := h
  refine ⟨iQ, ⟨iR.1, iR.2.1, iR.2.2.1, iR.2.2.2.1, ⟨by rw [en]; rfl, by omega⟩, fun i => ?_⟩, iT, ⟨iC.1, iC.2.1, fun k hk => ?_, iC.2.2.2⟩⟩
  · show upd (rA c 14) (nR c) (nI 1) i = nI 0 ∨ upd (rA c 14) (nR c) (nI 1) i = nI 1
    by_cases e : i = nR c
    · rw [e, pk_us]; exact Or.inr rfl
    · rw [pk_un e]; exact iR.2.2.2.2.2 i
  · obtain ⟨⟨r, r1, r2⟩, x⟩ := iC.2.2.1 k hk
    exact ⟨⟨r, by omega, r2⟩, x⟩
theorem tAdd_A (c : sm_G) (k f w b : Int32) : rA (tAddG c k f w b) 16 = upd (rA c 16) (nT c) k ∧ rA (tAddG c k f w b) 17 = upd (rA c 17) (nT c) f ∧ rA (tAddG c k f w b) 18 = upd (rA c 18) (nT c) w ∧ rA (tAddG c k f w b) 19 = upd (rA c 19) (nT c) b ∧ rA (tAddG c k f w b) 20 = upd (rA c 20) (nT c) (nI 0) ∧ rA (tAddG c k f w b) 21 = upd (rA c 21) (nT c) (sI 0) ∧ rA (tAddG c k f w b) 22 = upd (rA c 22) (nT c) (sI 0) ∧ rA (tAddG c k f w b) 23 = upd (rA c 23) (nT c) (sI 0) := ⟨rfl, rfl, rfl, rfl, rfl, rfl, rfl, rfl⟩
theorem iv_tAdd {c : sm_G} (h : iv c) {k f w b : Int32} (hn : nT c < 60) (hk : 0 ≤ k.toInt ∧ k.toInt < 6 ∧ 0 ≤ f.toInt ∧ f.toInt ≤ 999) (hw : w = nI 0 ∨ w = nI 1) (hb : b.toInt = -1 ∨ hereC c b ∧ (rA c 16 (tn b)).toInt = 1) : iv (tAddG c k f w b) := by
  have en := tAdd_n c k f w b hn
  obtain ⟨a16, a17, a18, a19, a20, a21, a22, a23⟩ := tAdd_A c k f w b
  obtain ⟨iQ, iR, iT, iC⟩ := h
  have wy : ∀ x, whyC (tAddG c k f w b) x = if x = nT c then -1 else whyC c x := fun x => by
    unfold whyC; rw [a23]
    by_cases e : x = nT c
    · rw [if_pos e, e, pk_us]; rfl
    · rw [if_neg e, pk_un e]
  have bg : ∀ x, bgC (tAddG c k f w b) x = if x = nT c then b.toInt else bgC c x := fun x => by
    unfold bgC; rw [a19]
    by_cases e : x = nT c
    · rw [if_pos e, e, pk_us]
    · rw [if_neg e, pk_un e]
  obtain ⟨t1, t2, t3, t4, t5, t6, t7, t8, t9, t10⟩ := iT
  refine ⟨iQ, iR, ⟨⟨by rw [en]; rfl, by omega⟩, t2, fun i => ?_, fun t ht => ?_, fun t ht => ?_, fun t ht => ?_, fun t ht => ?_, fun t ht => ?_, ?_, ?_⟩, ⟨iC.1, iC.2.1, fun q hq => ?_, iC.2.2.2⟩⟩
  · rw [a18]
    by_cases e : i = nT c
    · rw [e, pk_us]; exact hw
    · rw [pk_un e]; exact t3 i
  · rw [en] at ht; rw [a16, a17]
    by_cases e : t = nT c
    · rw [e, pk_us, pk_us]; exact ⟨hk.1, hk.2.1, hk.2.2.1⟩
    · rw [pk_un e, pk_un e]; exact t4 t (by omega)
  · rw [en] at ht; rw [wy]
    by_cases e : t = nT c
    · rw [if_pos e]; exact Or.inl rfl
    · rw [if_neg e]; exact t5 t (by omega)
  · rw [en] at ht; rw [bg, en]
    by_cases e : t = nT c
    · rw [if_pos e]
      rcases hb with hb | ⟨hb1, hb2⟩
      · exact Or.inl hb
      · refine Or.inr ?_
        obtain ⟨j, hj, ej⟩ := ok_nI hb1.1
        have hw2 := hb1.2
        rw [ej, tn_nI (by omega)] at hb2 hw2
        refine ⟨j, by omega, by rw [a19, e, pk_us]; exact ej, by rw [a16, pk_un (by omega)]; exact hb2, by rw [wy, if_neg (by omega)]; exact hw2⟩
    · rw [if_neg e]
      rcases t6 t (by omega) with h | ⟨j, j1, j2, j3, j4⟩
      · exact Or.inl h
      · exact Or.inr ⟨j, by omega, by rw [a19, pk_un e]; exact j2, by rw [a16, pk_un (by omega)]; exact j3, by rw [wy, if_neg (by omega)]; exact j4⟩
  · rw [en] at ht; rw [wy, bg]
    by_cases e : t = nT c
    · rw [if_pos e]; exact fun h => absurd rfl h
    · rw [if_neg e, if_neg e]; exact t7 t (by omega)
  · rw [en] at ht; rw [wy, a21, a22]
    by_cases e : t = nT c
    · rw [e, pk_us, pk_us]; exact fun _ => ⟨rfl, rfl⟩
    · rw [if_neg e, pk_un e, pk_un e]; exact t8 t (by omega)
  · obtain ⟨rk, hrk⟩ := t9
    refine ⟨fun t => if t = nT c then (if b.toInt = -1 then 0 else rk (tn b) + 1) else rk t, fun t ht hx => ?_⟩
    rw [en] at ht; rw [bg] at hx; rw [a19]
    (try dsimp only)
    by_cases e : t = nT c
    · rw [if_pos e] at hx
      have hbj : tn b ≠ nT c := by
        rcases hb with hb | hb
        · exact absurd hb hx
        · have := hb.1.1; unfold okT at this; unfold tn; omega
      rw [e, pk_us, if_pos rfl, if_neg hx, if_neg hbj]; omega
    · rw [if_neg e] at hx
      have hl := hrk t (by omega) hx
      have hj : tn (rA c 19 t) ≠ nT c := by
        rcases t6 t (by omega) with h | ⟨j, j1, j2, _⟩
        · exact absurd h hx
        · rw [j2, tn_nI (by omega)]; omega
      rw [pk_un e, if_neg e, if_neg hj]; exact hl
  · have eO : nO (tAddG c k f w b) = nO c := rfl
    rw [eO, en, t10]
    show _ = cnt _ (nT c) + (if dc (whyC (tAddG c k f w b) (nT c) ≠ -1) = true then 1 else 0)
    rw [if_neg (fun h => (dc_t.mp h) (by rw [wy, if_pos rfl]))]
    exact cnt_congr _ (fun i hi => by show dc _ = dc _; rw [wy, if_neg (by omega)])
  · obtain ⟨x1, ⟨t, y1, y2⟩, x3, x4, x5⟩ := iC.2.2.1 q hq
    refine ⟨x1, ⟨t, by omega, y2⟩, x3, x4, fun h => ?_⟩
    have := x5 h
    show whyC (tAddG c k f w b) (tn (rA c 27 q)) = -1
    rw [wy, y2, tn_nI (by omega), if_neg (by omega)]
    rw [y2, tn_nI (by omega)] at this; exact this

