/-! The standing claims, counted by things and by claims. -/
theorem nI_plus {x y : Nat} (h : x + y < 2147483648) : nI x + nI y = nI (x + y) := by
  apply Int32.toInt_inj.mp
  rw [Int32.toInt_add, nI_t (by omega), nI_t (by omega), nI_t h, Int.bmod_eq_of_le (by omega) (by omega)]
  omega
theorem cnt_spl (p : Nat → Prop) (a : Nat → Int) (n : Nat) : ∀ N, cnt (fun k => dc (p k ∧ 0 ≤ a k ∧ a k < ((n + 1 : Nat) : Int))) N = cnt (fun k => dc (p k ∧ 0 ≤ a k ∧ a k < (n : Int))) N + cnt (fun k => dc (p k ∧ a k = (n : Int))) N := by
  intro N
  induction N with
  | zero => rfl
  | succ N ih =>
    show cnt _ N + _ = (cnt _ N + _) + (cnt _ N + _)
    rw [ih]
    dsimp only
    have e : (if dc (p N ∧ 0 ≤ a N ∧ a N < ((n + 1 : Nat) : Int)) = true then 1 else 0) = (if dc (p N ∧ 0 ≤ a N ∧ a N < (n : Int)) = true then 1 else 0) + (if dc (p N ∧ a N = (n : Int)) = true then 1 else 0) := by
      by_cases hp : p N
      · by_cases h1 : a N = (n : Int)
        · rw [if_pos (dc_t.mpr ⟨hp, by omega, by omega⟩), if_neg (fun h => by have := (dc_t.mp h).2; omega), if_pos (dc_t.mpr ⟨hp, h1⟩)]
        · by_cases h2 : 0 ≤ a N ∧ a N < (n : Int)
          · rw [if_pos (dc_t.mpr ⟨hp, by omega, by omega⟩), if_pos (dc_t.mpr ⟨hp, h2⟩), if_neg (fun h => h1 (dc_t.mp h).2)]
          · rw [if_neg (fun h => by have := (dc_t.mp h).2; omega), if_neg (fun h => h2 (dc_t.mp h).2), if_neg (fun h => h1 (dc_t.mp h).2)]
      · rw [if_neg (fun h => hp (dc_t.mp h).1), if_neg (fun h => hp (dc_t.mp h).1), if_neg (fun h => hp (dc_t.mp h).1)]
    rw [e]
    omega
theorem isum_cnt (p : Nat → Prop) (a : Nat → Int) (f : Nat → Int32) {N : Nat} (hN : N ≤ 100) : ∀ n, (∀ t, t < n → f t = nI (cnt (fun k => dc (p k ∧ a k = (t : Int))) N)) → isum f n = nI (cnt (fun k => dc (p k ∧ 0 ≤ a k ∧ a k < (n : Int))) N) := by
  intro n
  induction n with
  | zero =>
    intro _
    rw [cnt_none N (fun k _ => dc_f.mpr (fun h => by have := h.2; omega))]
    rfl
  | succ n ih =>
    intro hf
    show isum f n + f n = _
    have b1 := cnt_le (fun k => dc (p k ∧ 0 ≤ a k ∧ a k < (n : Int))) N
    have b2 := cnt_le (fun k => dc (p k ∧ a k = (n : Int))) N
    rw [ih (fun t ht => hf t (by omega)), hf n (by omega), cnt_spl, nI_plus (by omega)]
theorem CP_count {c g : sm_G} (h : CP c g) : nI (cnt (fun k => dc (stM g k)) (mC g)) = isum (rA c 30) 60 := by
  rw [isum_cnt (stM g) (fun k => (rA g 81 k).toInt) (rA c 30) (CP_zM h).1.2 60 (fun t ht => (CP_stand h ht).symm)]
  refine congrArg nI (cnt_congr _ (fun k hk => ?_))
  rw [(CP_zM h).2] at hk
  have hn := CP_n h
  have e := h.2.2.2.2.2.2.1 k hk
  obtain ⟨t, t1, t2⟩ := (h.1.2.2.2.2.2.1 k hk).2.1
  have e2 : 0 ≤ (rA g 81 k).toInt ∧ (rA g 81 k).toInt < ((60 : Nat) : Int) := by
    rw [e, t2, nI_t (by omega)]; omega
  by_cases hs : stM g k
  · rw [dc_t.mpr hs, dc_t.mpr ⟨hs, e2⟩]
  · rw [dc_f.mpr hs, dc_f.mpr (fun b => hs b.1)]

