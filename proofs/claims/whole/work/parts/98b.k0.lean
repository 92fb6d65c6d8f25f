/-! At the law's start: the classes. -/
theorem v_inst : ∀ (c : Nat) (C : String) (T : u_T) (N : Nat), vwCl[c]? = some (C, T, N) → ∃ n, Cond.instantiable C n ∈ sm_BW := fun c C T N h => by
  match c, h with
  | 0, h => cases h; exact ⟨_, sm_b2 3 rfl rfl⟩
  | 1, h => cases h; exact ⟨_, sm_b1 178 rfl rfl⟩
  | 2, h => cases h; exact ⟨_, sm_b1 125 rfl rfl⟩
  | 3, h => cases h; exact ⟨_, sm_b1 172 rfl rfl⟩
  | 4, h => cases h; exact ⟨_, sm_b1 150 rfl rfl⟩
  | 5, h => cases h; exact ⟨_, sm_b1 28 rfl rfl⟩
  | 6, h => cases h; exact ⟨_, sm_b1 68 rfl rfl⟩
  | 7, h => cases h; exact ⟨_, sm_b1 52 rfl rfl⟩
  | 8, h => cases h; exact ⟨_, sm_b1 85 rfl rfl⟩
  | 9, h => cases h; exact ⟨_, sm_b1 20 rfl rfl⟩
  | 10, h => cases h; exact ⟨_, sm_b5 71 rfl rfl⟩
  | n + 11, h => exact absurd h (by simp [vwCl])
theorem sm_K0 {args : Array Value} {s : State} (hts : ∀ w ∈ sm_BW, w.before args s = true) : ∃ (D : va_G) (cA : Nat → ClassId), va_K D vwCl (sm_tys cA) s := by
  have h1 : ∀ c : Nat, ∃ z : ClassId × (Nat → Nat), ∀ q, vwCl[c]? = some q → u_Kn s q.1 q.2.1 q.2.2 z.1 z.2 := by
    intro c
    cases hc : vwCl[c]? with
    | none => exact ⟨(0, fun _ => 0), fun q hq => by cases hq⟩
    | some q =>
      obtain ⟨C, T, N⟩ := q
      obtain ⟨n, hn⟩ := v_inst c C T N hc
      obtain ⟨cC, iS, h⟩ := u_known hts (v_cok c C T N hc).1 (hts _ hn)
      exact ⟨(cC, iS), fun q hq => by cases hq; exact h⟩
  have h2 : ∀ ty : FieldType, ty = .int ∨ ty = .boolean ∨ ty = .long → (Cond.arrayClass ty).before args s = true → ∃ c : ClassId, ArrOfT s c ty ∧ va_RA s c ty := by
    intro ty ht h
    obtain ⟨c, k, comp, a1, a2, a3⟩ := Cond.arrayClass_spec h
    refine ⟨c, fun n z => ⟨(fun k h => by cases h), k, a2, comp, a3⟩, ?_⟩
    rcases ht with rfl | rfl | rfl <;> exact a1
  obtain ⟨c1, e1⟩ := h2 .int (Or.inl rfl) (hts _ (sm_b1 49 rfl rfl))
  obtain ⟨c2, e2⟩ := h2 .boolean (Or.inr (Or.inl rfl)) (hts _ (sm_b1 83 rfl rfl))
  obtain ⟨c3, e3⟩ := h2 .long (Or.inr (Or.inr rfl)) (hts _ (sm_b1 50 rfl rfl))
  refine ⟨(fun c => (Classical.choose (h1 c)).1, fun c => (Classical.choose (h1 c)).2), fun k => if k = 1 then c1 else if k = 2 then c2 else c3, fun c q hq => Classical.choose_spec (h1 c) q hq, fun k q hk => ?_⟩
  match k, hk with
  | 0, hk => cases hk; exact e1
  | 1, hk => cases hk; exact e2
  | 2, hk => cases hk; exact e3
  | n + 3, hk => cases hk

