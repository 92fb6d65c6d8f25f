/-! The class and the reference answer alike. -/
theorem put_mR {g : sm_G} {p x q : Nat} {a : Int32} (h : p = 6 ∨ p = 9) : mR g (putG g p x q a) := by
  unfold putG
  exact mR_A (mR_A (mR_A (mR_rf g) (by omega)) (by omega)) (by omega)
theorem cut_mR {g : sm_G} {p x : Nat} {n : Int32} (h : p = 6 ∨ p = 9) : mR g (cutG g p x n) := by
  unfold cutG
  exact mR_A (mR_A (mR_rf g) (by omega)) (by omega)
theorem co_question (s n w : Int32) : coop sp_X9_question (spE sp_X10_question) [.int s, .int n, .int w] := by
  intro g h
  obtain ⟨zq, zr, zt, zo, zc⟩ := iv_z h.1
  have hi := h.1
  have w := iv_wQ h.1
  obtain ⟨l6, l9⟩ := iv_wL h.1
  simp only [sp_X9_question, spE, sp_X10_question]
  refine ⟨trivial, zq, ?_⟩
  clear hi w l6 l9 zq zr zt zo zc
  repeat' (first | (with_reducible refine And.intro ?_ ?_) | with_reducible intro _)
  all_goals refine ⟨_, rfl, g, trivial, CP_mR (by repeat' (first | with_reducible exact mR_rf _ | with_reducible exact fin_mR _ _ _ | with_reducible exact day_mR _ _ | with_reducible exact give_mR _ _ | with_reducible exact put_mR hrw | with_reducible exact cut_mR hrw | with_reducible refine mR_tr ?_ (fins_mR _ _ _ _) | with_reducible refine mR_A ?_ ?_ | with_reducible refine mR_L ?_ ?_ | with_reducible refine mR_S ?_ ?_ | omega)) h, ?_⟩
  all_goals repeat' (first | (with_reducible refine And.intro ?_ ?_) | with_reducible intro _)
  all_goals first | with_reducible rfl | with_reducible assumption | exact LI_of (eqK_rf _) (by assumption) (by assumption) | exact LI_of (eqK_51 (eqK_rf _)) (by assumption) (by assumption) | exact LI_of (eqS_K (eqS_A (eqS_rf _) (by omega))).1 (by assumption) (by assumption) | (exfalso; grind)
theorem co_may (q a b is : Int32) (hb : is = nI 0 ∨ is = nI 1) : coop sp_X9_may (spE sp_X10_may) [.int q, .int a, .int b, .int is] := by
  intro g h
  obtain ⟨zq, zr, zt, zo, zc⟩ := iv_z h.1
  have hi := h.1
  have w := iv_wQ h.1
  obtain ⟨l6, l9⟩ := iv_wL h.1
  simp only [sp_X9_may, spE, sp_X10_may]
  refine ⟨trivial, w, hb, ?_⟩
  clear hi w l6 l9 zq zr zt zo zc
  repeat' (first | (with_reducible refine And.intro ?_ ?_) | with_reducible intro _)
  all_goals refine ⟨_, rfl, g, trivial, CP_mR (by repeat' (first | with_reducible exact mR_rf _ | with_reducible exact fin_mR _ _ _ | with_reducible exact day_mR _ _ | with_reducible exact give_mR _ _ | with_reducible exact put_mR hrw | with_reducible exact cut_mR hrw | with_reducible refine mR_tr ?_ (fins_mR _ _ _ _) | with_reducible refine mR_A ?_ ?_ | with_reducible refine mR_L ?_ ?_ | with_reducible refine mR_S ?_ ?_ | omega)) h, ?_⟩
  all_goals repeat' (first | (with_reducible refine And.intro ?_ ?_) | with_reducible intro _)
  all_goals first | with_reducible rfl | with_reducible assumption | exact LI_of (eqK_rf _) (by assumption) (by assumption) | exact LI_of (eqK_51 (eqK_rf _)) (by assumption) (by assumption) | exact LI_of (eqS_K (eqS_A (eqS_rf _) (by omega))).1 (by assumption) (by assumption) | (exfalso; grind)
theorem co_mays (q a b : Int32) : coop sp_X9_mays (spE sp_X10_mays) [.int q, .int a, .int b] := by
  intro g h
  obtain ⟨zq, zr, zt, zo, zc⟩ := iv_z h.1
  have hi := h.1
  have w := iv_wQ h.1
  obtain ⟨l6, l9⟩ := iv_wL h.1
  simp only [sp_X9_mays, spE, sp_X10_mays]
  refine ⟨trivial, w, ?_⟩
  clear hi w l6 l9 zq zr zt zo zc
  repeat' (first | (with_reducible refine And.intro ?_ ?_) | with_reducible intro _)
  all_goals refine ⟨_, rfl, g, trivial, CP_mR (by repeat' (first | with_reducible exact mR_rf _ | with_reducible exact fin_mR _ _ _ | with_reducible exact day_mR _ _ | with_reducible exact give_mR _ _ | with_reducible exact put_mR hrw | with_reducible exact cut_mR hrw | with_reducible refine mR_tr ?_ (fins_mR _ _ _ _) | with_reducible refine mR_A ?_ ?_ | with_reducible refine mR_L ?_ ?_ | with_reducible refine mR_S ?_ ?_ | omega)) h, ?_⟩
  all_goals repeat' (first | (with_reducible refine And.intro ?_ ?_) | with_reducible intro _)
  all_goals first | with_reducible rfl | with_reducible assumption | exact LI_of (eqK_rf _) (by assumption) (by assumption) | exact LI_of (eqK_51 (eqK_rf _)) (by assumption) (by assumption) | exact LI_of (eqS_K (eqS_A (eqS_rf _) (by omega))).1 (by assumption) (by assumption) | (exfalso; grind)
theorem co_thing (k f w0 b : Int32) (hb : w0 = nI 0 ∨ w0 = nI 1) : coop sp_X9_thing (spE sp_X10_thing) [.int k, .int f, .int w0, .int b] := by
  intro g h
  obtain ⟨zq, zr, zt, zo, zc⟩ := iv_z h.1
  have hi := h.1
  have w := iv_wQ h.1
  obtain ⟨l6, l9⟩ := iv_wL h.1
  simp only [sp_X9_thing, spE, sp_X10_thing]
  refine ⟨trivial, zt, hb, ?_⟩
  clear hi w l6 l9 zq zr zt zo zc
  repeat' (first | (with_reducible refine And.intro ?_ ?_) | with_reducible intro _)
  all_goals refine ⟨_, rfl, g, trivial, CP_mR (by repeat' (first | with_reducible exact mR_rf _ | with_reducible exact fin_mR _ _ _ | with_reducible exact day_mR _ _ | with_reducible exact give_mR _ _ | with_reducible exact put_mR hrw | with_reducible exact cut_mR hrw | with_reducible refine mR_tr ?_ (fins_mR _ _ _ _) | with_reducible refine mR_A ?_ ?_ | with_reducible refine mR_L ?_ ?_ | with_reducible refine mR_S ?_ ?_ | omega)) h, ?_⟩
  all_goals repeat' (first | (with_reducible refine And.intro ?_ ?_) | with_reducible intro _)
  all_goals first | with_reducible rfl | with_reducible assumption | exact LI_of (eqK_rf _) (by assumption) (by assumption) | exact LI_of (eqK_51 (eqK_rf _)) (by assumption) (by assumption) | exact LI_of (eqS_K (eqS_A (eqS_rf _) (by omega))).1 (by assumption) (by assumption) | (exfalso; grind)
theorem co_report (w0 : Int32) : coop sp_X9_report (spE sp_X10_report) [.int w0] := by
  intro g h
  obtain ⟨zq, zr, zt, zo, zc⟩ := iv_z h.1
  have hi := h.1
  have w := iv_wQ h.1
  obtain ⟨l6, l9⟩ := iv_wL h.1
  simp only [sp_X9_report, spE, sp_X10_report]
  refine ⟨trivial, zr, ?_⟩
  clear hi w l6 l9 zq zr zt zo zc
  repeat' (first | (with_reducible refine And.intro ?_ ?_) | with_reducible intro _)
  all_goals refine ⟨_, rfl, g, trivial, CP_mR (by repeat' (first | with_reducible exact mR_rf _ | with_reducible exact fin_mR _ _ _ | with_reducible exact day_mR _ _ | with_reducible exact give_mR _ _ | with_reducible exact put_mR hrw | with_reducible exact cut_mR hrw | with_reducible refine mR_tr ?_ (fins_mR _ _ _ _) | with_reducible refine mR_A ?_ ?_ | with_reducible refine mR_L ?_ ?_ | with_reducible refine mR_S ?_ ?_ | omega)) h, ?_⟩
  all_goals repeat' (first | (with_reducible refine And.intro ?_ ?_) | with_reducible intro _)
  all_goals first | with_reducible rfl | with_reducible assumption | exact LI_of (eqK_rf _) (by assumption) (by assumption) | exact LI_of (eqK_51 (eqK_rf _)) (by assumption) (by assumption) | exact LI_of (eqS_K (eqS_A (eqS_rf _) (by omega))).1 (by assumption) (by assumption) | (exfalso; grind)
theorem co_mark (b x q a : Int32) : coop sp_X9_mark (spE sp_X10_mark) [.int b, .int x, .int q, .int a] := by
  intro g h
  obtain ⟨zq, zr, zt, zo, zc⟩ := iv_z h.1
  have hi := h.1
  have w := iv_wQ h.1
  obtain ⟨l6, l9⟩ := iv_wL h.1
  have hrw := rwP_or b
  simp only [sp_X9_mark, spE, sp_X10_mark]
  refine ⟨trivial, zr, zt, zq, l6, l9, ?_⟩
  clear hi w l6 l9 zq zr zt zo zc
  repeat' (first | (with_reducible refine And.intro ?_ ?_) | with_reducible intro _)
  all_goals refine ⟨_, rfl, g, trivial, CP_mR (by repeat' (first | with_reducible exact mR_rf _ | with_reducible exact fin_mR _ _ _ | with_reducible exact day_mR _ _ | with_reducible exact give_mR _ _ | with_reducible exact put_mR hrw | with_reducible exact cut_mR hrw | with_reducible refine mR_tr ?_ (fins_mR _ _ _ _) | with_reducible refine mR_A ?_ ?_ | with_reducible refine mR_L ?_ ?_ | with_reducible refine mR_S ?_ ?_ | omega)) h, ?_⟩
  all_goals repeat' (first | (with_reducible refine And.intro ?_ ?_) | with_reducible intro _)
  all_goals first | with_reducible rfl | with_reducible assumption | exact LI_of (eqK_rf _) (by assumption) (by assumption) | exact LI_of (eqK_51 (eqK_rf _)) (by assumption) (by assumption) | exact LI_of (eqS_K (eqS_A (eqS_rf _) (by omega))).1 (by assumption) (by assumption) | (exfalso; grind)
theorem co_tear (b x n : Int32) : coop sp_X9_tear (spE sp_X10_tear) [.int b, .int x, .int n] := by
  intro g h
  obtain ⟨zq, zr, zt, zo, zc⟩ := iv_z h.1
  have hi := h.1
  have w := iv_wQ h.1
  obtain ⟨l6, l9⟩ := iv_wL h.1
  have hrw := rwP_or b
  simp only [sp_X9_tear, spE, sp_X10_tear]
  refine ⟨trivial, zr, zt, zq, l6, l9, ?_⟩
  clear hi w l6 l9 zq zr zt zo zc
  repeat' (first | (with_reducible refine And.intro ?_ ?_) | with_reducible intro _)
  all_goals refine ⟨_, rfl, g, trivial, CP_mR (by repeat' (first | with_reducible exact mR_rf _ | with_reducible exact fin_mR _ _ _ | with_reducible exact day_mR _ _ | with_reducible exact give_mR _ _ | with_reducible exact put_mR hrw | with_reducible exact cut_mR hrw | with_reducible refine mR_tr ?_ (fins_mR _ _ _ _) | with_reducible refine mR_A ?_ ?_ | with_reducible refine mR_L ?_ ?_ | with_reducible refine mR_S ?_ ?_ | omega)) h, ?_⟩
  all_goals repeat' (first | (with_reducible refine And.intro ?_ ?_) | with_reducible intro _)
  all_goals first | with_reducible rfl | with_reducible assumption | exact LI_of (eqK_rf _) (by assumption) (by assumption) | exact LI_of (eqK_51 (eqK_rf _)) (by assumption) (by assumption) | exact LI_of (eqS_K (eqS_A (eqS_rf _) (by omega))).1 (by assumption) (by assumption) | (exfalso; grind)
theorem co_known (b x q : Int32) : coop sp_X9_known (spE sp_X10_known) [.int b, .int x, .int q] := by
  intro g h
  obtain ⟨zq, zr, zt, zo, zc⟩ := iv_z h.1
  have hi := h.1
  have w := iv_wQ h.1
  obtain ⟨l6, l9⟩ := iv_wL h.1
  have hrw := rwP_or b
  simp only [sp_X9_known, spE, sp_X10_known]
  refine ⟨trivial, zr, zt, ?_⟩
  clear hi w l6 l9 zq zr zt zo zc
  repeat' (first | (with_reducible refine And.intro ?_ ?_) | with_reducible intro _)
  all_goals refine ⟨_, rfl, g, trivial, CP_mR (by repeat' (first | with_reducible exact mR_rf _ | with_reducible exact fin_mR _ _ _ | with_reducible exact day_mR _ _ | with_reducible exact give_mR _ _ | with_reducible exact put_mR hrw | with_reducible exact cut_mR hrw | with_reducible refine mR_tr ?_ (fins_mR _ _ _ _) | with_reducible refine mR_A ?_ ?_ | with_reducible refine mR_L ?_ ?_ | with_reducible refine mR_S ?_ ?_ | omega)) h, ?_⟩
  all_goals repeat' (first | (with_reducible refine And.intro ?_ ?_) | with_reducible intro _)
  all_goals first | with_reducible rfl | with_reducible assumption | exact LI_of (eqK_rf _) (by assumption) (by assumption) | exact LI_of (eqK_51 (eqK_rf _)) (by assumption) (by assumption) | exact LI_of (eqS_K (eqS_A (eqS_rf _) (by omega))).1 (by assumption) (by assumption) | (exfalso; grind)
theorem co_length (b x : Int32) : coop sp_X9_length (spE sp_X10_length) [.int b, .int x] := by
  intro g h
  obtain ⟨zq, zr, zt, zo, zc⟩ := iv_z h.1
  have hi := h.1
  have w := iv_wQ h.1
  obtain ⟨l6, l9⟩ := iv_wL h.1
  have hrw := rwP_or b
  simp only [sp_X9_length, spE, sp_X10_length]
  refine ⟨trivial, zr, zt, ?_⟩
  clear hi w l6 l9 zq zr zt zo zc
  repeat' (first | (with_reducible refine And.intro ?_ ?_) | with_reducible intro _)
  all_goals refine ⟨_, rfl, g, trivial, CP_mR (by repeat' (first | with_reducible exact mR_rf _ | with_reducible exact fin_mR _ _ _ | with_reducible exact day_mR _ _ | with_reducible exact give_mR _ _ | with_reducible exact put_mR hrw | with_reducible exact cut_mR hrw | with_reducible refine mR_tr ?_ (fins_mR _ _ _ _) | with_reducible refine mR_A ?_ ?_ | with_reducible refine mR_L ?_ ?_ | with_reducible refine mR_S ?_ ?_ | omega)) h, ?_⟩
  all_goals repeat' (first | (with_reducible refine And.intro ?_ ?_) | with_reducible intro _)
  all_goals first | with_reducible rfl | with_reducible assumption | exact LI_of (eqK_rf _) (by assumption) (by assumption) | exact LI_of (eqK_51 (eqK_rf _)) (by assumption) (by assumption) | exact LI_of (eqS_K (eqS_A (eqS_rf _) (by omega))).1 (by assumption) (by assumption) | (exfalso; grind)
theorem co_fits (r t : Int32) : coop sp_X9_fits (spE sp_X10_fits) [.int r, .int t] := by
  intro g h
  obtain ⟨zq, zr, zt, zo, zc⟩ := iv_z h.1
  have hi := h.1
  have w := iv_wQ h.1
  obtain ⟨l6, l9⟩ := iv_wL h.1
  simp only [sp_X9_fits, spE, sp_X10_fits]
  refine ⟨trivial, zr, zt, w, l6, l9, ?_⟩
  clear hi w l6 l9 zq zr zt zo zc
  repeat' (first | (with_reducible refine And.intro ?_ ?_) | with_reducible intro _)
  all_goals refine ⟨_, rfl, g, trivial, CP_mR (by repeat' (first | with_reducible exact mR_rf _ | with_reducible exact fin_mR _ _ _ | with_reducible exact day_mR _ _ | with_reducible exact give_mR _ _ | with_reducible exact put_mR hrw | with_reducible exact cut_mR hrw | with_reducible refine mR_tr ?_ (fins_mR _ _ _ _) | with_reducible refine mR_A ?_ ?_ | with_reducible refine mR_L ?_ ?_ | with_reducible refine mR_S ?_ ?_ | omega)) h, ?_⟩
  all_goals repeat' (first | (with_reducible refine And.intro ?_ ?_) | with_reducible intro _)
  all_goals first | with_reducible rfl | with_reducible assumption | exact LI_of (eqK_rf _) (by assumption) (by assumption) | exact LI_of (eqK_51 (eqK_rf _)) (by assumption) (by assumption) | exact LI_of (eqS_K (eqS_A (eqS_rf _) (by omega))).1 (by assumption) (by assumption) | (exfalso; grind)
theorem co_tells (r t : Int32) : coop sp_X9_tells (spE sp_X10_tells) [.int r, .int t] := by
  intro g h
  obtain ⟨zq, zr, zt, zo, zc⟩ := iv_z h.1
  have hi := h.1
  have w := iv_wQ h.1
  obtain ⟨l6, l9⟩ := iv_wL h.1
  simp only [sp_X9_tells, spE, sp_X10_tells]
  refine ⟨trivial, zr, zt, w, l6, l9, ?_⟩
  clear hi w l6 l9 zq zr zt zo zc
  repeat' (first | (with_reducible refine And.intro ?_ ?_) | with_reducible intro _)
  all_goals refine ⟨_, rfl, g, trivial, CP_mR (by repeat' (first | with_reducible exact mR_rf _ | with_reducible exact fin_mR _ _ _ | with_reducible exact day_mR _ _ | with_reducible exact give_mR _ _ | with_reducible exact put_mR hrw | with_reducible exact cut_mR hrw | with_reducible refine mR_tr ?_ (fins_mR _ _ _ _) | with_reducible refine mR_A ?_ ?_ | with_reducible refine mR_L ?_ ?_ | with_reducible refine mR_S ?_ ?_ | omega)) h, ?_⟩
  all_goals repeat' (first | (with_reducible refine And.intro ?_ ?_) | with_reducible intro _)
  all_goals first | with_reducible rfl | with_reducible assumption | exact LI_of (eqK_rf _) (by assumption) (by assumption) | exact LI_of (eqK_51 (eqK_rf _)) (by assumption) (by assumption) | exact LI_of (eqS_K (eqS_A (eqS_rf _) (by omega))).1 (by assumption) (by assumption) | (exfalso; grind)
theorem co_strength (r t : Int32) : coop sp_X9_strength (spE sp_X10_strength) [.int r, .int t] := by
  intro g h
  obtain ⟨zq, zr, zt, zo, zc⟩ := iv_z h.1
  have hi := h.1
  have w := iv_wQ h.1
  obtain ⟨l6, l9⟩ := iv_wL h.1
  simp only [sp_X9_strength, spE, sp_X10_strength]
  refine ⟨trivial, zr, zt, w, l6, l9, ?_⟩
  clear hi w l6 l9 zq zr zt zo zc
  repeat' (first | (with_reducible refine And.intro ?_ ?_) | with_reducible intro _)
  all_goals refine ⟨_, rfl, g, trivial, CP_mR (by repeat' (first | with_reducible exact mR_rf _ | with_reducible exact fin_mR _ _ _ | with_reducible exact day_mR _ _ | with_reducible exact give_mR _ _ | with_reducible exact put_mR hrw | with_reducible exact cut_mR hrw | with_reducible refine mR_tr ?_ (fins_mR _ _ _ _) | with_reducible refine mR_A ?_ ?_ | with_reducible refine mR_L ?_ ?_ | with_reducible refine mR_S ?_ ?_ | omega)) h, ?_⟩
  all_goals repeat' (first | (with_reducible refine And.intro ?_ ?_) | with_reducible intro _)
  all_goals first | with_reducible rfl | with_reducible assumption | exact LI_of (eqK_rf _) (by assumption) (by assumption) | exact LI_of (eqK_51 (eqK_rf _)) (by assumption) (by assumption) | exact LI_of (eqS_K (eqS_A (eqS_rf _) (by omega))).1 (by assumption) (by assumption) | (exfalso; grind)
theorem co_fitting (r : Int32) : coop sp_X9_fitting (spE sp_X10_fitting) [.int r] := by
  intro g h
  obtain ⟨zq, zr, zt, zo, zc⟩ := iv_z h.1
  have hi := h.1
  have w := iv_wQ h.1
  obtain ⟨l6, l9⟩ := iv_wL h.1
  simp only [sp_X9_fitting, spE, sp_X10_fitting]
  refine ⟨trivial, zr, zt, w, l6, l9, ?_⟩
  clear hi w l6 l9 zq zr zt zo zc
  repeat' (first | (with_reducible refine And.intro ?_ ?_) | with_reducible intro _)
  all_goals refine ⟨_, rfl, g, trivial, CP_mR (by repeat' (first | with_reducible exact mR_rf _ | with_reducible exact fin_mR _ _ _ | with_reducible exact day_mR _ _ | with_reducible exact give_mR _ _ | with_reducible exact put_mR hrw | with_reducible exact cut_mR hrw | with_reducible refine mR_tr ?_ (fins_mR _ _ _ _) | with_reducible refine mR_A ?_ ?_ | with_reducible refine mR_L ?_ ?_ | with_reducible refine mR_S ?_ ?_ | omega)) h, ?_⟩
  all_goals repeat' (first | (with_reducible refine And.intro ?_ ?_) | with_reducible intro _)
  all_goals first | with_reducible rfl | with_reducible assumption | exact LI_of (eqK_rf _) (by assumption) (by assumption) | exact LI_of (eqK_51 (eqK_rf _)) (by assumption) (by assumption) | exact LI_of (eqS_K (eqS_A (eqS_rf _) (by omega))).1 (by assumption) (by assumption) | (exfalso; grind)
theorem co_fit (r k : Int32) : coop sp_X9_fit (spE sp_X10_fit) [.int r, .int k] := by
  intro g h
  obtain ⟨zq, zr, zt, zo, zc⟩ := iv_z h.1
  have hi := h.1
  have w := iv_wQ h.1
  obtain ⟨l6, l9⟩ := iv_wL h.1
  simp only [sp_X9_fit, spE, sp_X10_fit]
  refine ⟨trivial, zr, zt, w, l6, l9, ?_⟩
  clear hi w l6 l9 zq zr zt zo zc
  repeat' (first | (with_reducible refine And.intro ?_ ?_) | with_reducible intro _)
  all_goals refine ⟨_, rfl, g, trivial, CP_mR (by repeat' (first | with_reducible exact mR_rf _ | with_reducible exact fin_mR _ _ _ | with_reducible exact day_mR _ _ | with_reducible exact give_mR _ _ | with_reducible exact put_mR hrw | with_reducible exact cut_mR hrw | with_reducible refine mR_tr ?_ (fins_mR _ _ _ _) | with_reducible refine mR_A ?_ ?_ | with_reducible refine mR_L ?_ ?_ | with_reducible refine mR_S ?_ ?_ | omega)) h, ?_⟩
  all_goals repeat' (first | (with_reducible refine And.intro ?_ ?_) | with_reducible intro _)
  all_goals first | with_reducible rfl | with_reducible assumption | exact LI_of (eqK_rf _) (by assumption) (by assumption) | exact LI_of (eqK_51 (eqK_rf _)) (by assumption) (by assumption) | exact LI_of (eqS_K (eqS_A (eqS_rf _) (by omega))).1 (by assumption) (by assumption) | (exfalso; grind)
theorem co_like (a b : Int32) : coop sp_X9_like (spE sp_X10_like) [.int a, .int b] := by
  intro g h
  obtain ⟨zq, zr, zt, zo, zc⟩ := iv_z h.1
  have hi := h.1
  have w := iv_wQ h.1
  obtain ⟨l6, l9⟩ := iv_wL h.1
  simp only [sp_X9_like, spE, sp_X10_like]
  refine ⟨trivial, zt, zq, ?_⟩
  clear hi w l6 l9 zq zr zt zo zc
  repeat' (first | (with_reducible refine And.intro ?_ ?_) | with_reducible intro _)
  all_goals refine ⟨_, rfl, g, trivial, CP_mR (by repeat' (first | with_reducible exact mR_rf _ | with_reducible exact fin_mR _ _ _ | with_reducible exact day_mR _ _ | with_reducible exact give_mR _ _ | with_reducible exact put_mR hrw | with_reducible exact cut_mR hrw | with_reducible refine mR_tr ?_ (fins_mR _ _ _ _) | with_reducible refine mR_A ?_ ?_ | with_reducible refine mR_L ?_ ?_ | with_reducible refine mR_S ?_ ?_ | omega)) h, ?_⟩
  all_goals repeat' (first | (with_reducible refine And.intro ?_ ?_) | with_reducible intro _)
  all_goals first | with_reducible rfl | with_reducible assumption | exact LI_of (eqK_rf _) (by assumption) (by assumption) | exact LI_of (eqK_51 (eqK_rf _)) (by assumption) (by assumption) | exact LI_of (eqS_K (eqS_A (eqS_rf _) (by omega))).1 (by assumption) (by assumption) | (exfalso; grind)
theorem co_parts (r q : Int32) : coop sp_X9_parts (spE sp_X10_parts) [.int r, .int q] := by
  intro g h
  obtain ⟨zq, zr, zt, zo, zc⟩ := iv_z h.1
  have hi := h.1
  have w := iv_wQ h.1
  obtain ⟨l6, l9⟩ := iv_wL h.1
  simp only [sp_X9_parts, spE, sp_X10_parts]
  refine ⟨trivial, zr, zt, w, l6, l9, ?_⟩
  clear hi w l6 l9 zq zr zt zo zc
  repeat' (first | (with_reducible refine And.intro ?_ ?_) | with_reducible intro _)
  all_goals refine ⟨_, rfl, g, trivial, CP_mR (by repeat' (first | with_reducible exact mR_rf _ | with_reducible exact fin_mR _ _ _ | with_reducible exact day_mR _ _ | with_reducible exact give_mR _ _ | with_reducible exact put_mR hrw | with_reducible exact cut_mR hrw | with_reducible refine mR_tr ?_ (fins_mR _ _ _ _) | with_reducible refine mR_A ?_ ?_ | with_reducible refine mR_L ?_ ?_ | with_reducible refine mR_S ?_ ?_ | omega)) h, ?_⟩
  all_goals repeat' (first | (with_reducible refine And.intro ?_ ?_) | with_reducible intro _)
  all_goals first | with_reducible rfl | with_reducible assumption | exact LI_of (eqK_rf _) (by assumption) (by assumption) | exact LI_of (eqK_51 (eqK_rf _)) (by assumption) (by assumption) | exact LI_of (eqS_K (eqS_A (eqS_rf _) (by omega))).1 (by assumption) (by assumption) | (exfalso; grind)
theorem co_ask (r : Int32) : coop sp_X9_ask (spE sp_X10_ask) [.int r] := by
  intro g h
  obtain ⟨zq, zr, zt, zo, zc⟩ := iv_z h.1
  have hi := h.1
  have w := iv_wQ h.1
  obtain ⟨l6, l9⟩ := iv_wL h.1
  simp only [sp_X9_ask, spE, sp_X10_ask]
  refine ⟨trivial, zr, zt, w, l6, l9, ?_⟩
  clear hi w l6 l9 zq zr zt zo zc
  repeat' (first | (with_reducible refine And.intro ?_ ?_) | with_reducible intro _)
  all_goals refine ⟨_, rfl, g, trivial, CP_mR (by repeat' (first | with_reducible exact mR_rf _ | with_reducible exact fin_mR _ _ _ | with_reducible exact day_mR _ _ | with_reducible exact give_mR _ _ | with_reducible exact put_mR hrw | with_reducible exact cut_mR hrw | with_reducible refine mR_tr ?_ (fins_mR _ _ _ _) | with_reducible refine mR_A ?_ ?_ | with_reducible refine mR_L ?_ ?_ | with_reducible refine mR_S ?_ ?_ | omega)) h, ?_⟩
  all_goals repeat' (first | (with_reducible refine And.intro ?_ ?_) | with_reducible intro _)
  all_goals first | with_reducible rfl | with_reducible assumption | exact LI_of (eqK_rf _) (by assumption) (by assumption) | exact LI_of (eqK_51 (eqK_rf _)) (by assumption) (by assumption) | exact LI_of (eqS_K (eqS_A (eqS_rf _) (by omega))).1 (by assumption) (by assumption) | (exfalso; grind)
theorem co_claim (r t : Int32) : coop sp_X9_claim (spE sp_X10_claim) [.int r, .int t] := by
  intro g h
  obtain ⟨zq, zr, zt, zo, zc⟩ := iv_z h.1
  have hi := h.1
  have w := iv_wQ h.1
  obtain ⟨l6, l9⟩ := iv_wL h.1
  have ho : opn g r = (okR g r ∧ rA g 14 (tn r) = nI 1) := by unfold opn; rw [eqI]; rfl
  simp only [sp_X9_claim, spE, sp_X10_claim, ho]
  refine ⟨trivial, hi, ?_⟩
  clear hi w l6 l9 zq zr zt zo zc
  repeat' (first | (with_reducible refine And.intro ?_ ?_) | with_reducible intro _)
  all_goals refine ⟨_, rfl, g, trivial, CP_mR (by repeat' (first | with_reducible exact mR_rf _ | with_reducible exact fin_mR _ _ _ | with_reducible exact day_mR _ _ | with_reducible exact give_mR _ _ | with_reducible exact put_mR hrw | with_reducible exact cut_mR hrw | with_reducible refine mR_tr ?_ (fins_mR _ _ _ _) | with_reducible refine mR_A ?_ ?_ | with_reducible refine mR_L ?_ ?_ | with_reducible refine mR_S ?_ ?_ | omega)) h, ?_⟩
  all_goals repeat' (first | (with_reducible refine And.intro ?_ ?_) | with_reducible intro _)
  all_goals first | with_reducible rfl | with_reducible assumption | exact LI_of (eqK_rf _) (by assumption) (by assumption) | exact LI_of (eqK_51 (eqK_rf _)) (by assumption) (by assumption) | exact LI_of (eqS_K (eqS_A (eqS_rf _) (by omega))).1 (by assumption) (by assumption) | (exfalso; grind)
theorem co_prove (k q a : Int32) : coop sp_X9_prove (spE sp_X10_prove) [.int k, .int q, .int a] := by
  intro g h
  obtain ⟨zq, zr, zt, zo, zc⟩ := iv_z h.1
  have hi := h.1
  have w := iv_wQ h.1
  obtain ⟨l6, l9⟩ := iv_wL h.1
  simp only [sp_X9_prove, spE, sp_X10_prove]
  refine ⟨trivial, hi, ?_⟩
  clear hi w l6 l9 zq zr zt zo zc
  repeat' (first | (with_reducible refine And.intro ?_ ?_) | with_reducible intro _)
  all_goals refine ⟨_, rfl, g, trivial, CP_mR (by repeat' (first | with_reducible exact mR_rf _ | with_reducible exact fin_mR _ _ _ | with_reducible exact day_mR _ _ | with_reducible exact give_mR _ _ | with_reducible exact put_mR hrw | with_reducible exact cut_mR hrw | with_reducible refine mR_tr ?_ (fins_mR _ _ _ _) | with_reducible refine mR_A ?_ ?_ | with_reducible refine mR_L ?_ ?_ | with_reducible refine mR_S ?_ ?_ | omega)) h, ?_⟩
  all_goals repeat' (first | (with_reducible refine And.intro ?_ ?_) | with_reducible intro _)
  all_goals first | with_reducible rfl | with_reducible assumption | exact LI_of (eqK_rf _) (by assumption) (by assumption) | exact LI_of (eqK_51 (eqK_rf _)) (by assumption) (by assumption) | exact LI_of (eqS_K (eqS_A (eqS_rf _) (by omega))).1 (by assumption) (by assumption) | (exfalso; grind)
theorem co_give (k : Int32) : coop sp_X9_give (spE sp_X10_give) [.int k] := by
  intro g h
  obtain ⟨zq, zr, zt, zo, zc⟩ := iv_z h.1
  have hi := h.1
  have w := iv_wQ h.1
  obtain ⟨l6, l9⟩ := iv_wL h.1
  simp only [sp_X9_give, spE, sp_X10_give]
  refine ⟨trivial, hi, ?_⟩
  clear hi w l6 l9 zq zr zt zo zc
  repeat' (first | (with_reducible refine And.intro ?_ ?_) | with_reducible intro _)
  all_goals refine ⟨_, rfl, g, trivial, CP_mR (by repeat' (first | with_reducible exact mR_rf _ | with_reducible exact fin_mR _ _ _ | with_reducible exact day_mR _ _ | with_reducible exact give_mR _ _ | with_reducible exact put_mR hrw | with_reducible exact cut_mR hrw | with_reducible refine mR_tr ?_ (fins_mR _ _ _ _) | with_reducible refine mR_A ?_ ?_ | with_reducible refine mR_L ?_ ?_ | with_reducible refine mR_S ?_ ?_ | omega)) h, ?_⟩
  all_goals repeat' (first | (with_reducible refine And.intro ?_ ?_) | with_reducible intro _)
  all_goals first | with_reducible rfl | with_reducible assumption | exact LI_of (eqK_rf _) (by assumption) (by assumption) | exact LI_of (eqK_51 (eqK_rf _)) (by assumption) (by assumption) | exact LI_of (eqS_K (eqS_A (eqS_rf _) (by omega))).1 (by assumption) (by assumption) | (exfalso; grind)
theorem co_withdraw (k : Int32) : coop sp_X9_withdraw (spE sp_X10_withdraw) [.int k] := by
  intro g h
  obtain ⟨zq, zr, zt, zo, zc⟩ := iv_z h.1
  have hi := h.1
  have w := iv_wQ h.1
  obtain ⟨l6, l9⟩ := iv_wL h.1
  simp only [sp_X9_withdraw, spE, sp_X10_withdraw]
  refine ⟨trivial, hi, ?_⟩
  clear hi w l6 l9 zq zr zt zo zc
  repeat' (first | (with_reducible refine And.intro ?_ ?_) | with_reducible intro _)
  all_goals refine ⟨_, rfl, g, trivial, CP_mR (by repeat' (first | with_reducible exact mR_rf _ | with_reducible exact fin_mR _ _ _ | with_reducible exact day_mR _ _ | with_reducible exact give_mR _ _ | with_reducible exact put_mR hrw | with_reducible exact cut_mR hrw | with_reducible refine mR_tr ?_ (fins_mR _ _ _ _) | with_reducible refine mR_A ?_ ?_ | with_reducible refine mR_L ?_ ?_ | with_reducible refine mR_S ?_ ?_ | omega)) h, ?_⟩
  all_goals repeat' (first | (with_reducible refine And.intro ?_ ?_) | with_reducible intro _)
  all_goals first | with_reducible rfl | with_reducible assumption | exact LI_of (eqK_rf _) (by assumption) (by assumption) | exact LI_of (eqK_51 (eqK_rf _)) (by assumption) (by assumption) | exact LI_of (eqS_K (eqS_A (eqS_rf _) (by omega))).1 (by assumption) (by assumption) | (exfalso; grind)
theorem co_close (r : Int32) : coop sp_X9_close (spE sp_X10_close) [.int r] := by
  intro g h
  obtain ⟨zq, zr, zt, zo, zc⟩ := iv_z h.1
  have hi := h.1
  have w := iv_wQ h.1
  obtain ⟨l6, l9⟩ := iv_wL h.1
  have ho : opn g r = (okR g r ∧ rA g 14 (tn r) = nI 1) := by unfold opn; rw [eqI]; rfl
  simp only [sp_X9_close, spE, sp_X10_close, ho]
  refine ⟨trivial, hi, ?_⟩
  clear hi w l6 l9 zq zr zt zo zc
  repeat' (first | (with_reducible refine And.intro ?_ ?_) | with_reducible intro _)
  all_goals refine ⟨_, rfl, g, trivial, CP_mR (by repeat' (first | with_reducible exact mR_rf _ | with_reducible exact fin_mR _ _ _ | with_reducible exact day_mR _ _ | with_reducible exact give_mR _ _ | with_reducible exact put_mR hrw | with_reducible exact cut_mR hrw | with_reducible refine mR_tr ?_ (fins_mR _ _ _ _) | with_reducible refine mR_A ?_ ?_ | with_reducible refine mR_L ?_ ?_ | with_reducible refine mR_S ?_ ?_ | omega)) h, ?_⟩
  all_goals repeat' (first | (with_reducible refine And.intro ?_ ?_) | with_reducible intro _)
  all_goals first | with_reducible rfl | with_reducible assumption | exact LI_of (eqK_rf _) (by assumption) (by assumption) | exact LI_of (eqK_51 (eqK_rf _)) (by assumption) (by assumption) | exact LI_of (eqS_K (eqS_A (eqS_rf _) (by omega))).1 (by assumption) (by assumption) | (exfalso; grind)
theorem co_into (t b : Int32) : coop sp_X9_into (spE sp_X10_into) [.int t, .int b] := by
  intro g h
  obtain ⟨zq, zr, zt, zo, zc⟩ := iv_z h.1
  have hi := h.1
  have w := iv_wQ h.1
  obtain ⟨l6, l9⟩ := iv_wL h.1
  simp only [sp_X9_into, spE, sp_X10_into]
  refine ⟨trivial, zt, ?_⟩
  clear hi w l6 l9 zq zr zt zo zc
  repeat' (first | (with_reducible refine And.intro ?_ ?_) | with_reducible intro _)
  all_goals refine ⟨_, rfl, g, trivial, CP_mR (by repeat' (first | with_reducible exact mR_rf _ | with_reducible exact fin_mR _ _ _ | with_reducible exact day_mR _ _ | with_reducible exact give_mR _ _ | with_reducible exact put_mR hrw | with_reducible exact cut_mR hrw | with_reducible refine mR_tr ?_ (fins_mR _ _ _ _) | with_reducible refine mR_A ?_ ?_ | with_reducible refine mR_L ?_ ?_ | with_reducible refine mR_S ?_ ?_ | omega)) h, ?_⟩
  all_goals repeat' (first | (with_reducible refine And.intro ?_ ?_) | with_reducible intro _)
  all_goals first | with_reducible rfl | with_reducible assumption | exact LI_of (eqK_rf _) (by assumption) (by assumption) | exact LI_of (eqK_51 (eqK_rf _)) (by assumption) (by assumption) | exact LI_of (eqS_K (eqS_A (eqS_rf _) (by omega))).1 (by assumption) (by assumption) | (exfalso; grind)
theorem co_days (k n : Int32) : coop sp_X9_days (spE sp_X10_days) [.int k, .int n] := by
  intro g h
  obtain ⟨zq, zr, zt, zo, zc⟩ := iv_z h.1
  have hi := h.1
  have w := iv_wQ h.1
  obtain ⟨l6, l9⟩ := iv_wL h.1
  simp only [sp_X9_days, spE, sp_X10_days]
  refine ⟨trivial, ?_⟩
  clear hi w l6 l9 zq zr zt zo zc
  repeat' (first | (with_reducible refine And.intro ?_ ?_) | with_reducible intro _)
  all_goals refine ⟨_, rfl, g, trivial, CP_mR (by repeat' (first | with_reducible exact mR_rf _ | with_reducible exact fin_mR _ _ _ | with_reducible exact day_mR _ _ | with_reducible exact give_mR _ _ | with_reducible exact put_mR hrw | with_reducible exact cut_mR hrw | with_reducible refine mR_tr ?_ (fins_mR _ _ _ _) | with_reducible refine mR_A ?_ ?_ | with_reducible refine mR_L ?_ ?_ | with_reducible refine mR_S ?_ ?_ | omega)) h, ?_⟩
  all_goals repeat' (first | (with_reducible refine And.intro ?_ ?_) | with_reducible intro _)
  all_goals first | with_reducible rfl | with_reducible assumption | exact LI_of (eqK_rf _) (by assumption) (by assumption) | exact LI_of (eqK_51 (eqK_rf _)) (by assumption) (by assumption) | exact LI_of (eqS_K (eqS_A (eqS_rf _) (by omega))).1 (by assumption) (by assumption) | (exfalso; grind)
theorem co_day (n : Int32) : coop sp_X9_day (spE sp_X10_day) [.int n] := by
  intro g h
  obtain ⟨zq, zr, zt, zo, zc⟩ := iv_z h.1
  have hi := h.1
  have w := iv_wQ h.1
  obtain ⟨l6, l9⟩ := iv_wL h.1
  simp only [sp_X9_day, spE, sp_X10_day]
  refine ⟨trivial, hi, ?_⟩
  clear hi w l6 l9 zq zr zt zo zc
  repeat' (first | (with_reducible refine And.intro ?_ ?_) | with_reducible intro _)
  all_goals refine ⟨_, rfl, g, trivial, CP_mR (by repeat' (first | with_reducible exact mR_rf _ | with_reducible exact fin_mR _ _ _ | with_reducible exact day_mR _ _ | with_reducible exact give_mR _ _ | with_reducible exact put_mR hrw | with_reducible exact cut_mR hrw | with_reducible refine mR_tr ?_ (fins_mR _ _ _ _) | with_reducible refine mR_A ?_ ?_ | with_reducible refine mR_L ?_ ?_ | with_reducible refine mR_S ?_ ?_ | omega)) h, ?_⟩
  all_goals repeat' (first | (with_reducible refine And.intro ?_ ?_) | with_reducible intro _)
  all_goals first | with_reducible rfl | with_reducible assumption | exact LI_of (eqK_rf _) (by assumption) (by assumption) | exact LI_of (eqK_51 (eqK_rf _)) (by assumption) (by assumption) | exact LI_of (eqS_K (eqS_A (eqS_rf _) (by omega))).1 (by assumption) (by assumption) | (exfalso; grind)
theorem co_gone (k : Int32) : coop sp_X9_gone (spE sp_X10_gone) [.int k] := by
  intro g h
  obtain ⟨zq, zr, zt, zo, zc⟩ := iv_z h.1
  have hi := h.1
  have w := iv_wQ h.1
  obtain ⟨l6, l9⟩ := iv_wL h.1
  simp only [sp_X9_gone, spE, sp_X10_gone]
  refine ⟨trivial, zo, ?_⟩
  clear hi w l6 l9 zq zr zt zo zc
  repeat' (first | (with_reducible refine And.intro ?_ ?_) | with_reducible intro _)
  all_goals refine ⟨_, rfl, g, trivial, CP_mR (by repeat' (first | with_reducible exact mR_rf _ | with_reducible exact fin_mR _ _ _ | with_reducible exact day_mR _ _ | with_reducible exact give_mR _ _ | with_reducible exact put_mR hrw | with_reducible exact cut_mR hrw | with_reducible refine mR_tr ?_ (fins_mR _ _ _ _) | with_reducible refine mR_A ?_ ?_ | with_reducible refine mR_L ?_ ?_ | with_reducible refine mR_S ?_ ?_ | omega)) h, ?_⟩
  all_goals repeat' (first | (with_reducible refine And.intro ?_ ?_) | with_reducible intro _)
  all_goals first | with_reducible rfl | with_reducible assumption | exact LI_of (eqK_rf _) (by assumption) (by assumption) | exact LI_of (eqK_51 (eqK_rf _)) (by assumption) (by assumption) | exact LI_of (eqS_K (eqS_A (eqS_rf _) (by omega))).1 (by assumption) (by assumption) | (exfalso; grind)

