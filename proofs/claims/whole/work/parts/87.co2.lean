/-! The class and the reference answer alike: where more than one state may come behind the class. -/
theorem lst_lt2 (f : Nat → Bool) : ∀ n i j, i < j → j < (lst f n).length → (lst f n).getD i 0 < (lst f n).getD j 0 := by
  intro n
  induction n with
  | zero => intro i j _ h; exact absurd h (Nat.not_lt_zero _)
  | succ n ih =>
    intro i j hij hj
    simp only [lst] at hj ⊢
    split at hj
    · rename_i hf
      rw [if_pos hf]
      rw [List.length_append, List.length_singleton] at hj
      rw [List.getD_eq_getElem?_getD, List.getD_eq_getElem?_getD, List.getElem?_append_left (by omega)]
      by_cases e : j < (lst f n).length
      · rw [List.getElem?_append_left e]
        have := ih i j hij e
        rw [List.getD_eq_getElem?_getD, List.getD_eq_getElem?_getD] at this
        exact this
      · have ej : j = (lst f n).length := by omega
        rw [List.getElem?_append_right (by omega), ej, Nat.sub_self]
        have hi : i < (lst f n).length := by omega
        rw [List.getElem?_eq_getElem hi]
        exact (lst_lt f n _ (List.getElem_mem hi)).1
    · rename_i hf
      rw [if_neg hf]
      exact ih i j hij hj
theorem memF_inj {g : sm_G} {r i j : Nat} (hi : i < (memL g r).length) (hj : j < (memL g r).length) (e : memF g r i = memF g r j) : i = j := by
  unfold memF memL at e
  unfold memL at hi hj
  rcases Nat.lt_trichotomy i j with h | h | h
  · have := lst_lt2 _ 60 i j h hj; omega
  · exact h
  · have := lst_lt2 _ 60 j i h hi; omega
theorem co_fewest (r : Int32) : coop sp_X9_fewest (spE sp_X10_fewest) [.int r] := by
  intro g h
  obtain ⟨zq, zr, zt, zo, zc⟩ := iv_z h.1
  have w := iv_wQ h.1
  obtain ⟨l6, l9⟩ := iv_wL h.1
  simp only [sp_X9_fewest, spE, sp_X10_fewest]
  refine ⟨trivial, zr, zt, w, l6, l9, fun a => ⟨_, rfl, g, trivial, h, fun h' m c => ⟨fun _ => ⟨rfl, LI_of (eqK_rf _) m c⟩, fun b => absurd a.2 b.2, fun b => absurd a.1 b⟩⟩, fun a D M cl fd k hk hn => ?_, fun a => ⟨_, rfl, g, trivial, h, fun h' m c => ⟨fun b => absurd b.1 a, fun b => absurd b.1 a, fun _ => ⟨rfl, LI_of (eqK_rf _) m c⟩⟩⟩⟩
  have e := eqS_K (eqS_S (v := nI D) (c := 5) (eqS_A (f := fd) (k := 49) (eqS_A (f := cl) (k := 48) (eqS_A (f := M) (k := 47) (eqS_rf g) (by omega)) (by omega)) (by omega)) (p := 46) (by omega))
  exact ⟨_, rfl, g, trivial, CP_mR e.2 h, fun h' m c => ⟨fun b => absurd b.2 a.2, fun _ k2 hk2 hn2 => ⟨by rw [isNd_uni hn hn2], LI_of e.1 m c⟩, fun b => absurd a.1 b⟩⟩
theorem co_group (r w : Int32) : coop sp_X9_group (spE sp_X10_group) [.int r, .int w] := by
  intro g h
  simp only [sp_X9_group, spE, sp_X10_group]
  exact ⟨trivial, h.1, fun a => ⟨_, rfl, g, trivial, h, fun _ h' m c => ⟨rfl, LI_of (eqK_rf _) m c⟩, fun b b2 => absurd ⟨b, by omega, by omega⟩ a, fun b b2 => absurd ⟨b, by omega, by omega⟩ a⟩,
    fun a b u e => ⟨_, rfl, g, trivial, CP_mR (eqS_K e).2 h, fun n => absurd ⟨a, by omega, by omega⟩ n, fun _ _ h' m c => ⟨rfl, LI_of (eqS_K e).1 m c⟩, fun _ b2 => absurd b2 (by omega)⟩,
    fun a b u e => ⟨_, rfl, g, trivial, CP_mR (eqS_K e).2 h, fun n => absurd ⟨a, by omega, by omega⟩ n, fun _ b2 => absurd b2 (by omega), fun _ _ h' m c => ⟨rfl, LI_of (eqS_K e).1 m c⟩⟩⟩
theorem co_best (r : Int32) : coop sp_X9_best (spE sp_X10_best) [.int r] := by
  intro g h
  simp only [sp_X9_best, spE, sp_X10_best]
  refine ⟨trivial, h.1, fun a => ⟨_, rfl, g, trivial, h, fun _ h' m c => ⟨rfl, LI_of (eqK_rf _) m c⟩, fun b => absurd b a, fun b => absurd b a⟩,
    fun a b u e => ⟨_, rfl, g, trivial, CP_mR (eqS_K e).2 h, fun n => absurd a n, fun _ _ h' m c => ⟨rfl, LI_of (eqS_K e).1 m c⟩, fun _ n => absurd b n⟩,
    fun a b W i u hb hi hr e => ⟨_, rfl, g, trivial, CP_mR (eqS_K e).2 h, fun n => absurd a n, fun _ n => absurd n b, fun _ _ W2 i2 h' m c hb2 hi2 hr2 => ⟨?_, LI_of (eqS_K e).1 m c⟩⟩⟩
  have e1 := memF_inj hi hi2 (by rw [hr, hr2])
  have e2 := (bst_uni (by omega) (by omega) hb hb2).1 i hi
  rw [← e1, e2]
theorem co_sum (r : Int32) : coop sp_X9_sum (spE sp_X10_sum) [.int r] := by
  intro g h
  simp only [sp_X9_sum, spE, sp_X10_sum]
  refine ⟨trivial, h.1, fun a => ⟨_, rfl, g, trivial, h, fun _ h' m c => ⟨rfl, LI_of (eqK_rf _) m c⟩, fun b => absurd b a, fun b => absurd b a⟩,
    fun a b u e => ⟨_, rfl, g, trivial, CP_mR (eqS_K e).2 h, fun n => absurd a n, fun _ _ h' m c => ⟨rfl, LI_of (eqS_K e).1 m c⟩, fun _ n => absurd b n⟩,
    fun a b W u hb e => ⟨_, rfl, g, trivial, CP_mR (eqS_K e).2 h, fun n => absurd a n, fun _ n => absurd n b, fun _ _ W2 h' m c hb2 => ⟨?_, LI_of (eqS_K e).1 m c⟩⟩⟩
  rw [(bst_uni (by omega) (by omega) hb hb2).2]
theorem co_also (r : Int32) : coop sp_X9_also (spE sp_X10_also) [.int r] := by
  intro g h
  simp only [sp_X9_also, spE, sp_X10_also]
  refine ⟨trivial, h.1, fun a => ⟨_, rfl, g, trivial, h, fun _ h' m c => ⟨rfl, LI_of (eqK_rf _) m c⟩, fun b => absurd b a, fun b => absurd b a⟩,
    fun a b u e => ⟨_, rfl, g, trivial, CP_mR (eqS_K e).2 h, fun n => absurd a n, fun _ _ h' m c => ⟨rfl, LI_of (eqS_K e).1 m c⟩, fun _ n => absurd b n⟩,
    fun a b W i u hb hi hr e => ?_⟩
  have key : ∀ W2 i2, bstW g (memL g (tn r)).length (gdL g (tn r)).length (memF g (tn r)) (gdF g (tn r)) W2 → i2 < (memL g (tn r)).length → memF g (tn r) i2 = tn r → W2 i2 = W i := fun W2 i2 hb2 hi2 hr2 => by
    have e1 := memF_inj hi hi2 (by rw [hr, hr2])
    rw [← e1, (bst_uni (by omega) (by omega) hb hb2).1 i hi]
  refine ⟨fun n => ⟨_, rfl, g, trivial, CP_mR (eqS_K e).2 h, fun n => absurd a n, fun _ n => absurd n b, fun _ _ W2 i2 h' m c hb2 hi2 hr2 => ⟨fun _ => ⟨rfl, LI_of (eqS_K e).1 m c⟩, fun j hj => ?_⟩⟩, fun j hj => ⟨_, rfl, g, trivial, CP_mR (eqS_K e).2 h, fun n => absurd a n, fun _ n => absurd n b, fun _ _ W2 i2 h' m c hb2 hi2 hr2 => ⟨fun hn => ?_, fun j2 hj2 => ?_⟩⟩⟩
  · rw [key W2 i2 hb2 hi2 hr2, n] at hj; cases hj
  · rw [key W2 i2 hb2 hi2 hr2, hj] at hn; cases hn
  · rw [key W2 i2 hb2 hi2 hr2, hj] at hj2
    injection hj2 with hj2
    rw [hj2]
    exact ⟨rfl, LI_of (eqS_K e).1 m c⟩
theorem co_count (n : Int32) : coop sp_X9_count (spE sp_X10_count) [.int n] := by
  intro g h
  simp only [sp_X9_count, spE, sp_X10_count]
  refine ⟨trivial, h.1, ?_⟩
  refine ⟨fun a => ⟨_, rfl, g, trivial, h, fun h' m c => ?_⟩, fun a => ⟨_, rfl, g, trivial, h, fun h' m c => ?_⟩, fun a => ⟨_, rfl, g, trivial, h, fun h' m c => ?_⟩, fun a => ⟨_, rfl, g, trivial, h, fun h' m c => ?_⟩, fun a => ⟨_, rfl, g, trivial, h, fun h' m c => ?_⟩, fun a => ⟨_, rfl, g, trivial, h, fun h' m c => ?_⟩, fun a => ⟨_, rfl, g, trivial, h, fun h' m c => ?_⟩, fun a => ⟨_, rfl, g, trivial, h, fun h' m c => ?_⟩, fun a => ⟨_, rfl, g, trivial, h, fun h' m c => ?_⟩, fun a => ⟨_, rfl, g, trivial, h, fun h' m c => ?_⟩⟩
  all_goals
    have lc := LI_of (eqK_rf _) m c
    refine ⟨fun b => ?_, fun b => ?_, fun b => ?_, fun b => ?_, fun b => ?_, fun b => ?_, fun b => ?_, fun b => ?_, fun b => ?_, fun b => ?_⟩
    all_goals first | (exfalso; omega) | exact ⟨by with_reducible rfl, lc⟩ | exact ⟨by rw [CP_count c], lc⟩ | fail "G"

