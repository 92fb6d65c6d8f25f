/-! THE TABLES HOLD: each word by its place (written by program). -/
theorem sm_b1 {w : Cond} (n : Nat) (h : tables_1_1[n]? = some w) (hg : goodWord w = true) : w ∈ sm_BW := List.mem_filter.mpr ⟨List.mem_append_right _ (List.mem_append_left _ (List.mem_of_getElem? h)), hg⟩
theorem sm_b2 {w : Cond} (n : Nat) (h : tables_1_2[n]? = some w) (hg : goodWord w = true) : w ∈ sm_BW := List.mem_filter.mpr ⟨List.mem_append_right _ (List.mem_append_right _ (List.mem_append_left _ (List.mem_of_getElem? h))), hg⟩
theorem sm_b3 {w : Cond} (n : Nat) (h : tables_1_3[n]? = some w) (hg : goodWord w = true) : w ∈ sm_BW := List.mem_filter.mpr ⟨List.mem_append_right _ (List.mem_append_right _ (List.mem_append_right _ (List.mem_append_left _ (List.mem_of_getElem? h)))), hg⟩
theorem sm_b4 {w : Cond} (n : Nat) (h : tables_1_4[n]? = some w) (hg : goodWord w = true) : w ∈ sm_BW := List.mem_filter.mpr ⟨List.mem_append_right _ (List.mem_append_right _ (List.mem_append_right _ (List.mem_append_right _ (List.mem_append_left _ (List.mem_of_getElem? h))))), hg⟩
theorem sm_b5 {w : Cond} (n : Nat) (h : tables_1_5[n]? = some w) (hg : goodWord w = true) : w ∈ sm_BW := List.mem_filter.mpr ⟨List.mem_append_right _ (List.mem_append_right _ (List.mem_append_right _ (List.mem_append_right _ (List.mem_append_right _ (List.mem_append_left _ (List.mem_of_getElem? h)))))), hg⟩
theorem sm_b6 {w : Cond} (n : Nat) (h : tables_1_6[n]? = some w) (hg : goodWord w = true) : w ∈ sm_BW := List.mem_filter.mpr ⟨List.mem_append_right _ (List.mem_append_right _ (List.mem_append_right _ (List.mem_append_right _ (List.mem_append_right _ (List.mem_append_right _ (List.mem_append_left _ (List.mem_of_getElem? h))))))), hg⟩
theorem sm_b7 {w : Cond} (n : Nat) (h : tables_1_7[n]? = some w) (hg : goodWord w = true) : w ∈ sm_BW := List.mem_filter.mpr ⟨List.mem_append_right _ (List.mem_append_right _ (List.mem_append_right _ (List.mem_append_right _ (List.mem_append_right _ (List.mem_append_right _ (List.mem_append_right _ (List.mem_of_getElem? h))))))), hg⟩
theorem sm_p1 {y : MethodName} {k : Nat} (n : Nat) (h : lw_privs_1[n]? = some (y, k)) (hg : goodWord (.selects y.cls y y) = true) : Cond.selects y.cls y y ∈ sm_BW := List.mem_filter.mpr ⟨List.mem_append_left _ (List.mem_map.mpr ⟨(y, k), List.mem_append_left _ (List.mem_of_getElem? h), rfl⟩), hg⟩
theorem sm_p2 {y : MethodName} {k : Nat} (n : Nat) (h : lw_privs_2[n]? = some (y, k)) (hg : goodWord (.selects y.cls y y) = true) : Cond.selects y.cls y y ∈ sm_BW := List.mem_filter.mpr ⟨List.mem_append_left _ (List.mem_map.mpr ⟨(y, k), List.mem_append_right _ (List.mem_append_left _ (List.mem_of_getElem? h)), rfl⟩), hg⟩
theorem sm_p3 {y : MethodName} {k : Nat} (n : Nat) (h : lw_privs_3[n]? = some (y, k)) (hg : goodWord (.selects y.cls y y) = true) : Cond.selects y.cls y y ∈ sm_BW := List.mem_filter.mpr ⟨List.mem_append_left _ (List.mem_map.mpr ⟨(y, k), List.mem_append_right _ (List.mem_append_right _ (List.mem_append_left _ (List.mem_of_getElem? h))), rfl⟩), hg⟩
theorem sm_p4 {y : MethodName} {k : Nat} (n : Nat) (h : lw_privs_4[n]? = some (y, k)) (hg : goodWord (.selects y.cls y y) = true) : Cond.selects y.cls y y ∈ sm_BW := List.mem_filter.mpr ⟨List.mem_append_left _ (List.mem_map.mpr ⟨(y, k), List.mem_append_right _ (List.mem_append_right _ (List.mem_append_right _ (List.mem_of_getElem? h))), rfl⟩), hg⟩
theorem v_lay_X0 : ∀ k, k < 6 → u_lay RX0 TX0 k ∈ sm_BW := lt_s (lt_s (lt_s (lt_s (lt_s (lt_s (lt_0) (sm_b2 14 rfl rfl)) (sm_b2 16 rfl rfl)) (sm_b2 18 rfl rfl)) (sm_b2 20 rfl rfl)) (sm_b2 22 rfl rfl)) (sm_b2 24 rfl rfl)
theorem v_cok_X0 : (∀ w ∈ u_ws RX0 TX0 6, w ∈ sm_BW) ∧ (∃ ty0 : Nat → FieldType, ∀ k, k < 6 → parseFieldDescriptor (TX0 k).2.2.1 = some (ty0 k)) ∧ ∀ a, a < 6 → ∀ b, b < 6 → a ≠ b → (TX0 a).2.1 ≠ (TX0 b).2.1 := ⟨fun w hw => by obtain ⟨k, hk, rfl⟩ := List.mem_map.mp hw; exact v_lay_X0 k (List.mem_range.mp hk), ⟨tyX0, tyX0_ok⟩, nmX0⟩
theorem v_lay_X1 : ∀ k, k < 11 → u_lay RX1 TX1 k ∈ sm_BW := lt_s (lt_s (lt_s (lt_s (lt_s (lt_s (lt_s (lt_s (lt_s (lt_s (lt_s (lt_0) (sm_b1 194 rfl rfl)) (sm_b1 196 rfl rfl)) (sm_b1 198 rfl rfl)) (sm_b1 200 rfl rfl)) (sm_b1 202 rfl rfl)) (sm_b1 204 rfl rfl)) (sm_b1 206 rfl rfl)) (sm_b1 208 rfl rfl)) (sm_b1 210 rfl rfl)) (sm_b1 212 rfl rfl)) (sm_b1 214 rfl rfl)
theorem v_cok_X1 : (∀ w ∈ u_ws RX1 TX1 11, w ∈ sm_BW) ∧ (∃ ty0 : Nat → FieldType, ∀ k, k < 11 → parseFieldDescriptor (TX1 k).2.2.1 = some (ty0 k)) ∧ ∀ a, a < 11 → ∀ b, b < 11 → a ≠ b → (TX1 a).2.1 ≠ (TX1 b).2.1 := ⟨fun w hw => by obtain ⟨k, hk, rfl⟩ := List.mem_map.mp hw; exact v_lay_X1 k (List.mem_range.mp hk), ⟨tyX1, tyX1_ok⟩, nmX1⟩
theorem v_lay_X2 : ∀ k, k < 6 → u_lay RX2 TX2 k ∈ sm_BW := lt_s (lt_s (lt_s (lt_s (lt_s (lt_s (lt_0) (sm_b1 136 rfl rfl)) (sm_b1 138 rfl rfl)) (sm_b1 140 rfl rfl)) (sm_b1 142 rfl rfl)) (sm_b1 144 rfl rfl)) (sm_b1 146 rfl rfl)
theorem v_cok_X2 : (∀ w ∈ u_ws RX2 TX2 6, w ∈ sm_BW) ∧ (∃ ty0 : Nat → FieldType, ∀ k, k < 6 → parseFieldDescriptor (TX2 k).2.2.1 = some (ty0 k)) ∧ ∀ a, a < 6 → ∀ b, b < 6 → a ≠ b → (TX2 a).2.1 ≠ (TX2 b).2.1 := ⟨fun w hw => by obtain ⟨k, hk, rfl⟩ := List.mem_map.mp hw; exact v_lay_X2 k (List.mem_range.mp hk), ⟨tyX2, tyX2_ok⟩, nmX2⟩
theorem v_lay_X3 : ∀ k, k < 8 → u_lay RX3 TX3 k ∈ sm_BW := lt_s (lt_s (lt_s (lt_s (lt_s (lt_s (lt_s (lt_s (lt_0) (sm_b1 225 rfl rfl)) (sm_b1 227 rfl rfl)) (sm_b1 229 rfl rfl)) (sm_b1 231 rfl rfl)) (sm_b1 233 rfl rfl)) (sm_b1 235 rfl rfl)) (sm_b1 237 rfl rfl)) (sm_b1 239 rfl rfl)
theorem v_cok_X3 : (∀ w ∈ u_ws RX3 TX3 8, w ∈ sm_BW) ∧ (∃ ty0 : Nat → FieldType, ∀ k, k < 8 → parseFieldDescriptor (TX3 k).2.2.1 = some (ty0 k)) ∧ ∀ a, a < 8 → ∀ b, b < 8 → a ≠ b → (TX3 a).2.1 ≠ (TX3 b).2.1 := ⟨fun w hw => by obtain ⟨k, hk, rfl⟩ := List.mem_map.mp hw; exact v_lay_X3 k (List.mem_range.mp hk), ⟨tyX3, tyX3_ok⟩, nmX3⟩
theorem v_lay_X4 : ∀ k, k < 5 → u_lay RX4 TX4 k ∈ sm_BW := lt_s (lt_s (lt_s (lt_s (lt_s (lt_0) (sm_b1 160 rfl rfl)) (sm_b1 162 rfl rfl)) (sm_b1 164 rfl rfl)) (sm_b1 166 rfl rfl)) (sm_b1 168 rfl rfl)
theorem v_cok_X4 : (∀ w ∈ u_ws RX4 TX4 5, w ∈ sm_BW) ∧ (∃ ty0 : Nat → FieldType, ∀ k, k < 5 → parseFieldDescriptor (TX4 k).2.2.1 = some (ty0 k)) ∧ ∀ a, a < 5 → ∀ b, b < 5 → a ≠ b → (TX4 a).2.1 ≠ (TX4 b).2.1 := ⟨fun w hw => by obtain ⟨k, hk, rfl⟩ := List.mem_map.mp hw; exact v_lay_X4 k (List.mem_range.mp hk), ⟨tyX4, tyX4_ok⟩, nmX4⟩
theorem v_lay_X5 : ∀ k, k < 5 → u_lay RX5 TX5 k ∈ sm_BW := lt_s (lt_s (lt_s (lt_s (lt_s (lt_0) (sm_b1 38 rfl rfl)) (sm_b1 40 rfl rfl)) (sm_b1 42 rfl rfl)) (sm_b1 44 rfl rfl)) (sm_b1 46 rfl rfl)
theorem v_cok_X5 : (∀ w ∈ u_ws RX5 TX5 5, w ∈ sm_BW) ∧ (∃ ty0 : Nat → FieldType, ∀ k, k < 5 → parseFieldDescriptor (TX5 k).2.2.1 = some (ty0 k)) ∧ ∀ a, a < 5 → ∀ b, b < 5 → a ≠ b → (TX5 a).2.1 ≠ (TX5 b).2.1 := ⟨fun w hw => by obtain ⟨k, hk, rfl⟩ := List.mem_map.mp hw; exact v_lay_X5 k (List.mem_range.mp hk), ⟨tyX5, tyX5_ok⟩, nmX5⟩
theorem v_lay_X6 : ∀ k, k < 3 → u_lay RX6 TX6 k ∈ sm_BW := lt_s (lt_s (lt_s (lt_0) (sm_b1 76 rfl rfl)) (sm_b1 78 rfl rfl)) (sm_b1 80 rfl rfl)
theorem v_cok_X6 : (∀ w ∈ u_ws RX6 TX6 3, w ∈ sm_BW) ∧ (∃ ty0 : Nat → FieldType, ∀ k, k < 3 → parseFieldDescriptor (TX6 k).2.2.1 = some (ty0 k)) ∧ ∀ a, a < 3 → ∀ b, b < 3 → a ≠ b → (TX6 a).2.1 ≠ (TX6 b).2.1 := ⟨fun w hw => by obtain ⟨k, hk, rfl⟩ := List.mem_map.mp hw; exact v_lay_X6 k (List.mem_range.mp hk), ⟨tyX6, tyX6_ok⟩, nmX6⟩
theorem v_lay_X7 : ∀ k, k < 3 → u_lay RX7 TX7 k ∈ sm_BW := lt_s (lt_s (lt_s (lt_0) (sm_b1 60 rfl rfl)) (sm_b1 62 rfl rfl)) (sm_b1 64 rfl rfl)
theorem v_cok_X7 : (∀ w ∈ u_ws RX7 TX7 3, w ∈ sm_BW) ∧ (∃ ty0 : Nat → FieldType, ∀ k, k < 3 → parseFieldDescriptor (TX7 k).2.2.1 = some (ty0 k)) ∧ ∀ a, a < 3 → ∀ b, b < 3 → a ≠ b → (TX7 a).2.1 ≠ (TX7 b).2.1 := ⟨fun w hw => by obtain ⟨k, hk, rfl⟩ := List.mem_map.mp hw; exact v_lay_X7 k (List.mem_range.mp hk), ⟨tyX7, tyX7_ok⟩, nmX7⟩
theorem v_lay_X8 : ∀ k, k < 11 → u_lay RX8 TX8 k ∈ sm_BW := lt_s (lt_s (lt_s (lt_s (lt_s (lt_s (lt_s (lt_s (lt_s (lt_s (lt_s (lt_0) (sm_b1 101 rfl rfl)) (sm_b1 103 rfl rfl)) (sm_b1 105 rfl rfl)) (sm_b1 107 rfl rfl)) (sm_b1 109 rfl rfl)) (sm_b1 111 rfl rfl)) (sm_b1 113 rfl rfl)) (sm_b1 115 rfl rfl)) (sm_b1 117 rfl rfl)) (sm_b1 119 rfl rfl)) (sm_b1 121 rfl rfl)
theorem v_cok_X8 : (∀ w ∈ u_ws RX8 TX8 11, w ∈ sm_BW) ∧ (∃ ty0 : Nat → FieldType, ∀ k, k < 11 → parseFieldDescriptor (TX8 k).2.2.1 = some (ty0 k)) ∧ ∀ a, a < 11 → ∀ b, b < 11 → a ≠ b → (TX8 a).2.1 ≠ (TX8 b).2.1 := ⟨fun w hw => by obtain ⟨k, hk, rfl⟩ := List.mem_map.mp hw; exact v_lay_X8 k (List.mem_range.mp hk), ⟨tyX8, tyX8_ok⟩, nmX8⟩
theorem v_lay_X9 : ∀ k, k < 12 → u_lay RX9 TX9 k ∈ sm_BW := lt_s (lt_s (lt_s (lt_s (lt_s (lt_s (lt_s (lt_s (lt_s (lt_s (lt_s (lt_s (lt_0) (sm_b2 39 rfl rfl)) (sm_b2 41 rfl rfl)) (sm_b2 43 rfl rfl)) (sm_b2 45 rfl rfl)) (sm_b2 47 rfl rfl)) (sm_b2 49 rfl rfl)) (sm_b2 51 rfl rfl)) (sm_b2 53 rfl rfl)) (sm_b2 55 rfl rfl)) (sm_b2 57 rfl rfl)) (sm_b2 59 rfl rfl)) (sm_b2 61 rfl rfl)
theorem v_cok_X9 : (∀ w ∈ u_ws RX9 TX9 12, w ∈ sm_BW) ∧ (∃ ty0 : Nat → FieldType, ∀ k, k < 12 → parseFieldDescriptor (TX9 k).2.2.1 = some (ty0 k)) ∧ ∀ a, a < 12 → ∀ b, b < 12 → a ≠ b → (TX9 a).2.1 ≠ (TX9 b).2.1 := ⟨fun w hw => by obtain ⟨k, hk, rfl⟩ := List.mem_map.mp hw; exact v_lay_X9 k (List.mem_range.mp hk), ⟨tyX9, tyX9_ok⟩, nmX9⟩
theorem v_lay_X10 : ∀ k, k < 42 → u_lay RX10 TX10 k ∈ sm_BW := lt_s (lt_s (lt_s (lt_s (lt_s (lt_s (lt_s (lt_s (lt_s (lt_s (lt_s (lt_s (lt_s (lt_s (lt_s (lt_s (lt_s (lt_s (lt_s (lt_s (lt_s (lt_s (lt_s (lt_s (lt_s (lt_s (lt_s (lt_s (lt_s (lt_s (lt_s (lt_s (lt_s (lt_s (lt_s (lt_s (lt_s (lt_s (lt_s (lt_s (lt_s (lt_s (lt_0) (sm_b5 118 rfl rfl)) (sm_b5 120 rfl rfl)) (sm_b5 122 rfl rfl)) (sm_b5 124 rfl rfl)) (sm_b5 126 rfl rfl)) (sm_b5 128 rfl rfl)) (sm_b5 130 rfl rfl)) (sm_b5 132 rfl rfl)) (sm_b5 134 rfl rfl)) (sm_b5 136 rfl rfl)) (sm_b5 138 rfl rfl)) (sm_b5 140 rfl rfl)) (sm_b5 142 rfl rfl)) (sm_b5 144 rfl rfl)) (sm_b5 146 rfl rfl)) (sm_b5 148 rfl rfl)) (sm_b5 150 rfl rfl)) (sm_b5 152 rfl rfl)) (sm_b5 154 rfl rfl)) (sm_b5 156 rfl rfl)) (sm_b5 158 rfl rfl)) (sm_b5 160 rfl rfl)) (sm_b5 162 rfl rfl)) (sm_b5 164 rfl rfl)) (sm_b5 166 rfl rfl)) (sm_b5 168 rfl rfl)) (sm_b5 170 rfl rfl)) (sm_b5 172 rfl rfl)) (sm_b5 174 rfl rfl)) (sm_b5 176 rfl rfl)) (sm_b5 178 rfl rfl)) (sm_b5 180 rfl rfl)) (sm_b5 182 rfl rfl)) (sm_b5 184 rfl rfl)) (sm_b5 186 rfl rfl)) (sm_b5 188 rfl rfl)) (sm_b5 190 rfl rfl)) (sm_b5 192 rfl rfl)) (sm_b5 194 rfl rfl)) (sm_b5 196 rfl rfl)) (sm_b5 198 rfl rfl)) (sm_b5 200 rfl rfl)
theorem v_cok_X10 : (∀ w ∈ u_ws RX10 TX10 42, w ∈ sm_BW) ∧ (∃ ty0 : Nat → FieldType, ∀ k, k < 42 → parseFieldDescriptor (TX10 k).2.2.1 = some (ty0 k)) ∧ ∀ a, a < 42 → ∀ b, b < 42 → a ≠ b → (TX10 a).2.1 ≠ (TX10 b).2.1 := ⟨fun w hw => by obtain ⟨k, hk, rfl⟩ := List.mem_map.mp hw; exact v_lay_X10 k (List.mem_range.mp hk), ⟨tyX10, tyX10_ok⟩, nmX10⟩
theorem v_cok : sm_cok := fun ci C T N h => by
  match ci, h with
  | 0, h => cases h; exact v_cok_X0
  | 1, h => cases h; exact v_cok_X1
  | 2, h => cases h; exact v_cok_X2
  | 3, h => cases h; exact v_cok_X3
  | 4, h => cases h; exact v_cok_X4
  | 5, h => cases h; exact v_cok_X5
  | 6, h => cases h; exact v_cok_X6
  | 7, h => cases h; exact v_cok_X7
  | 8, h => cases h; exact v_cok_X8
  | 9, h => cases h; exact v_cok_X9
  | 10, h => cases h; exact v_cok_X10
  | n + 11, h => exact absurd h (by simp [vwCl])
theorem v_ka : ∀ (pl ty n : Nat), lay[pl]? = some (.inr (ty, n)) → ty = 1 ∨ ty = 2 ∨ ty = 3 := by
  have h : lay.all (fun x => match x with | .inl _ => true | .inr (ty, _) => ty == 1 || ty == 2 || ty == 3) = true := by decide +kernel
  intro pl ty n hp
  have := List.all_eq_true.mp h _ (List.mem_of_getElem? hp)
  simpa [or_assoc] using this
def v_lkb (x : (Nat × List Nat) ⊕ (Nat × Nat)) : Bool := match x with
  | .inr _ => true
  | .inl (ci, ds) => match vwCl[ci]? with
    | none => false
    | some q => (List.range ds.length).all (fun k => ds[k]? != some 1 || (q.2.1 k).2.2.1 == "I" && (q.2.1 k).2.2.2 == false)
theorem v_lok : sm_lok lay := by
  have h : lay.all v_lkb = true := by decide +kernel
  intro p ci k ds hp hd
  have h1 := List.all_eq_true.mp h _ (List.mem_of_getElem? hp)
  simp only [v_lkb] at h1
  split at h1
  · cases h1
  · rename_i q hq
    have h2 := List.all_eq_true.mp h1 k (List.mem_range.mpr (List.getElem?_eq_some_iff.mp hd).1)
    rw [hd] at h2
    simp at h2
    exact ⟨q.1, q.2.1, q.2.2, hq, h2.1, h2.2⟩
theorem v_lk {β : Type} {P : Nat → β → Prop} : ∀ {L : List (Nat × β)}, (∀ q ∈ L, P q.1 q.2) → ∀ a b, L.lookup a = some b → P a b := by
  intro L
  induction L with
  | nil => intro _ a b h; cases h
  | cons q L ih =>
    intro h a b hl
    obtain ⟨x, y⟩ := q
    rw [List.lookup_cons] at hl
    split at hl
    · rename_i he; obtain rfl := Option.some.inj hl
      obtain rfl := eq_of_beq he
      exact h _ List.mem_cons_self
    · exact ih (fun q hq => h q (List.mem_cons_of_mem _ hq)) a b hl
noncomputable def mR_0 : sm_R := ((yX0_init, cX0_init, 3, none), false, 3)
noncomputable def mR_1 : sm_R := ((yX0_init, cX0_init, 3, none), false, 3)
noncomputable def mR_2 : sm_R := ((yX0_isAlike, cX0_isAlike, 4, (some .boolean)), false, 3)
noncomputable def mR_3 : sm_R := ((yX0_countClasses, cX0_countClasses, 6, (some .int)), false, 3)
noncomputable def mR_4 : sm_R := ((yX0_isFirstOfClass, cX0_isFirstOfClass, 7, (some .boolean)), false, 4)
noncomputable def mR_5 : sm_R := ((yX0_mostParting, cX0_mostParting, 7, (some .int)), false, 2)
noncomputable def mR_6 : sm_R := ((yX0_neededFor, cX0_neededFor, 5, (some .int)), false, 2)
noncomputable def mR_7 : sm_R := ((yX0_listDistinct, cX0_listDistinct, 4, none), false, 2)
noncomputable def mR_8 : sm_R := ((yX0_isListed, cX0_isListed, 3, (some .boolean)), false, 2)
noncomputable def mR_9 : sm_R := ((yX0_classOf, cX0_classOf, 6, (some .int)), false, 3)
noncomputable def mR_10 : sm_R := ((yX0_search, cX0_search, 7, (some .int)), false, 3)
noncomputable def mR_11 : sm_R := ((yX0_neededBehind, cX0_neededBehind, 9, (some .int)), false, 5)
noncomputable def mR_12 : sm_R := ((yX0_lowerBound, cX0_lowerBound, 6, (some .int)), false, 3)
noncomputable def mR_13 : sm_R := ((yX0_countParts, cX0_countParts, 6, (some .int)), false, 3)
noncomputable def mR_14 : sm_R := ((yX1_init, cX1_init, 1, none), false, 1)
noncomputable def mR_15 : sm_R := ((yX1_start, cX1_start, 4, none), false, 3)
noncomputable def mR_16 : sm_R := ((yX1_allow, cX1_allow, 7, none), false, 4)
noncomputable def mR_17 : sm_R := ((yX1_solve, cX1_solve, 2, none), false, 1)
noncomputable def mR_18 : sm_R := ((yX1_reachFree, cX1_reachFree, 3, (some .int)), false, 1)
noncomputable def mR_19 : sm_R := ((yX1_holderOf, cX1_holderOf, 2, (some .int)), false, 2)
noncomputable def mR_20 : sm_R := ((yX1_lookFrom, cX1_lookFrom, 6, none), false, 2)
noncomputable def mR_21 : sm_R := ((yX1_nearest, cX1_nearest, 5, (some .int)), false, 1)
noncomputable def mR_22 : sm_R := ((yX1_changePrices, cX1_changePrices, 4, none), false, 2)
noncomputable def mR_23 : sm_R := ((yX1_passOn, cX1_passOn, 5, none), false, 2)
noncomputable def mR_24 : sm_R := ((yX1_columnOf, cX1_columnOf, 3, (some .int)), false, 2)
noncomputable def mR_25 : sm_R := ((yX1_gainOf, cX1_gainOf, 3, (some .int)), false, 2)
noncomputable def mR_26 : sm_R := ((yX2_init, cX2_init, 1, none), false, 1)
noncomputable def mR_27 : sm_R := ((yX2_size, cX2_size, 1, (some .int)), false, 1)
noncomputable def mR_28 : sm_R := ((yX2_has, cX2_has, 2, (some .boolean)), false, 2)
noncomputable def mR_29 : sm_R := ((yX2_isFull, cX2_isFull, 1, (some .boolean)), false, 1)
noncomputable def mR_30 : sm_R := ((yX2_isStanding, cX2_isStanding, 2, (some .boolean)), false, 2)
noncomputable def mR_31 : sm_R := ((yX2_stateOf, cX2_stateOf, 2, (some .int)), false, 2)
noncomputable def mR_32 : sm_R := ((yX2_reportOf, cX2_reportOf, 2, (some .int)), false, 2)
noncomputable def mR_33 : sm_R := ((yX2_thingOf, cX2_thingOf, 2, (some .int)), false, 2)
noncomputable def mR_34 : sm_R := ((yX2_standingOn, cX2_standingOn, 2, (some .int)), false, 2)
noncomputable def mR_35 : sm_R := ((yX2_isTarget, cX2_isTarget, 2, (some .boolean)), false, 2)
noncomputable def mR_36 : sm_R := ((yX2_standingCount, cX2_standingCount, 3, (some .int)), false, 1)
noncomputable def mR_37 : sm_R := ((yX2_add, cX2_add, 4, (some .int)), false, 3)
noncomputable def mR_38 : sm_R := ((yX2_isClaimedBy, cX2_isClaimedBy, 4, (some .boolean)), false, 3)
noncomputable def mR_39 : sm_R := ((yX2_isProvedAhead, cX2_isProvedAhead, 4, (some .boolean)), false, 3)
noncomputable def mR_40 : sm_R := ((yX2_isFirstAsked, cX2_isFirstAsked, 2, (some .boolean)), false, 2)
noncomputable def mR_41 : sm_R := ((yX2_setProved, cX2_setProved, 2, none), false, 2)
noncomputable def mR_42 : sm_R := ((yX2_finish, cX2_finish, 4, none), false, 3)
noncomputable def mR_43 : sm_R := ((yX2_finishAllOf, cX2_finishAllOf, 4, none), false, 3)
noncomputable def mR_44 : sm_R := ((yX2_finishAllOn, cX2_finishAllOn, 4, none), false, 3)
noncomputable def mR_45 : sm_R := ((yX3_init, cX3_init, 3, none), false, 3)
noncomputable def mR_46 : sm_R := ((yX3_reportCount, cX3_reportCount, 1, (some .int)), false, 1)
noncomputable def mR_47 : sm_R := ((yX3_thingCount, cX3_thingCount, 1, (some .int)), false, 1)
noncomputable def mR_48 : sm_R := ((yX3_isTooLarge, cX3_isTooLarge, 1, (some .boolean)), false, 1)
noncomputable def mR_49 : sm_R := ((yX3_gather, cX3_gather, 3, none), false, 2)
noncomputable def mR_50 : sm_R := ((yX3_hangTogether, cX3_hangTogether, 9, (some .long)), false, 2)
noncomputable def mR_51 : sm_R := ((yX3_listMembers, cX3_listMembers, 6, none), false, 2)
noncomputable def mR_52 : sm_R := ((yX3_findBestWay, cX3_findBestWay, 4, none), false, 1)
noncomputable def mR_53 : sm_R := ((yX3_strengthSum, cX3_strengthSum, 3, (some .int)), false, 1)
noncomputable def mR_54 : sm_R := ((yX3_givenTo, cX3_givenTo, 4, (some .int)), false, 2)
noncomputable def mR_55 : sm_R := ((yX4_init, cX4_init, 5, none), false, 5)
noncomputable def mR_56 : sm_R := ((yX4_firstClash, cX4_firstClash, 5, (some .int)), false, 3)
noncomputable def mR_57 : sm_R := ((yX4_isFit, cX4_isFit, 3, (some .boolean)), false, 3)
noncomputable def mR_58 : sm_R := ((yX4_fitSet, cX4_fitSet, 5, (some .long)), false, 2)
noncomputable def mR_59 : sm_R := ((yX4_weigh, cX4_weigh, 5, none), false, 2)
noncomputable def mR_60 : sm_R := ((yX4_countHolders, cX4_countHolders, 6, (some .int)), false, 4)
noncomputable def mR_61 : sm_R := ((yX4_addWorths, cX4_addWorths, 4, (some .int)), false, 2)
noncomputable def mR_62 : sm_R := ((yX4_strengthOf, cX4_strengthOf, 3, (some .int)), false, 3)
noncomputable def mR_63 : sm_R := ((yX4_countAsStrong, cX4_countAsStrong, 7, (some .int)), false, 3)
noncomputable def mR_64 : sm_R := ((yX5_init, cX5_init, 1, none), false, 1)
noncomputable def mR_65 : sm_R := ((yX5_size, cX5_size, 1, (some .int)), false, 1)
noncomputable def mR_66 : sm_R := ((yX5_has, cX5_has, 2, (some .boolean)), false, 2)
noncomputable def mR_67 : sm_R := ((yX5_weightOf, cX5_weightOf, 2, (some .int)), false, 2)
noncomputable def mR_68 : sm_R := ((yX5_add, cX5_add, 5, (some .int)), false, 4)
noncomputable def mR_69 : sm_R := ((yX5_isNumberOf, cX5_isNumberOf, 2, (some .boolean)), true, 2)
noncomputable def mR_70 : sm_R := ((yX5_isAnswer, cX5_isAnswer, 3, (some .boolean)), false, 3)
noncomputable def mR_71 : sm_R := ((yX5_tellOfTable, cX5_tellOfTable, 5, (some .boolean)), false, 5)
noncomputable def mR_72 : sm_R := ((yX5_tellOneWay, cX5_tellOneWay, 6, none), false, 4)
noncomputable def mR_73 : sm_R := ((yX5_agree, cX5_agree, 5, (some .boolean)), false, 4)
noncomputable def mR_74 : sm_R := ((yX6_init, cX6_init, 1, none), false, 1)
noncomputable def mR_75 : sm_R := ((yX6_size, cX6_size, 1, (some .int)), false, 1)
noncomputable def mR_76 : sm_R := ((yX6_has, cX6_has, 2, (some .boolean)), false, 2)
noncomputable def mR_77 : sm_R := ((yX6_isOpen, cX6_isOpen, 2, (some .boolean)), false, 2)
noncomputable def mR_78 : sm_R := ((yX6_personOf, cX6_personOf, 2, (some .int)), false, 2)
noncomputable def mR_79 : sm_R := ((yX6_add, cX6_add, 3, (some .int)), false, 2)
noncomputable def mR_80 : sm_R := ((yX6_shut, cX6_shut, 2, none), false, 2)
noncomputable def mR_81 : sm_R := ((yX6_openCount, cX6_openCount, 3, (some .int)), false, 1)
noncomputable def mR_82 : sm_R := ((yX7_init, cX7_init, 2, none), false, 1)
noncomputable def mR_83 : sm_R := ((yX7_isRow, cX7_isRow, 1, (some .boolean)), true, 1)
noncomputable def mR_84 : sm_R := ((yX7_lengthOf, cX7_lengthOf, 2, (some .int)), false, 2)
noncomputable def mR_85 : sm_R := ((yX7_knownSetOf, cX7_knownSetOf, 2, (some .int)), false, 2)
noncomputable def mR_86 : sm_R := ((yX7_answerOf, cX7_answerOf, 3, (some .int)), false, 3)
noncomputable def mR_87 : sm_R := ((yX7_put, cX7_put, 5, none), false, 4)
noncomputable def mR_88 : sm_R := ((yX7_cut, cX7_cut, 3, (some .boolean)), false, 3)
noncomputable def mR_89 : sm_R := ((yX8_init, cX8_init, 1, none), false, 1)
noncomputable def mR_90 : sm_R := ((yX8_size, cX8_size, 1, (some .int)), false, 1)
noncomputable def mR_91 : sm_R := ((yX8_has, cX8_has, 2, (some .boolean)), false, 2)
noncomputable def mR_92 : sm_R := ((yX8_isHere, cX8_isHere, 2, (some .boolean)), false, 2)
noncomputable def mR_93 : sm_R := ((yX8_isBagHere, cX8_isBagHere, 2, (some .boolean)), false, 2)
noncomputable def mR_94 : sm_R := ((yX8_add, cX8_add, 6, (some .int)), false, 5)
noncomputable def mR_95 : sm_R := ((yX8_whereOf, cX8_whereOf, 2, (some .int)), false, 2)
noncomputable def mR_96 : sm_R := ((yX8_kindOf, cX8_kindOf, 2, (some .int)), false, 2)
noncomputable def mR_97 : sm_R := ((yX8_finderOf, cX8_finderOf, 2, (some .int)), false, 2)
noncomputable def mR_98 : sm_R := ((yX8_isWantedByFinder, cX8_isWantedByFinder, 2, (some .boolean)), false, 2)
noncomputable def mR_99 : sm_R := ((yX8_bagOf, cX8_bagOf, 2, (some .int)), false, 2)
noncomputable def mR_100 : sm_R := ((yX8_ageOf, cX8_ageOf, 2, (some .int)), false, 2)
noncomputable def mR_101 : sm_R := ((yX8_takerOf, cX8_takerOf, 2, (some .int)), false, 2)
noncomputable def mR_102 : sm_R := ((yX8_outDayOf, cX8_outDayOf, 2, (some .int)), false, 2)
noncomputable def mR_103 : sm_R := ((yX8_whyOf, cX8_whyOf, 2, (some .int)), false, 2)
noncomputable def mR_104 : sm_R := ((yX8_growOlder, cX8_growOlder, 2, (some .int)), false, 2)
noncomputable def mR_105 : sm_R := ((yX8_moveTo, cX8_moveTo, 3, none), false, 3)
noncomputable def mR_106 : sm_R := ((yX8_holds, cX8_holds, 5, (some .boolean)), false, 3)
noncomputable def mR_107 : sm_R := ((yX8_firstInside, cX8_firstInside, 3, (some .int)), false, 2)
noncomputable def mR_108 : sm_R := ((yX8_countInside, cX8_countInside, 4, (some .int)), false, 2)
noncomputable def mR_109 : sm_R := ((yX8_leave, cX8_leave, 5, none), false, 5)
noncomputable def mR_110 : sm_R := ((yX8_goneCount, cX8_goneCount, 1, (some .int)), false, 1)
noncomputable def mR_111 : sm_R := ((yX8_goneAt, cX8_goneAt, 2, (some .int)), false, 2)
noncomputable def mR_112 : sm_R := ((yX8_countPlaced, cX8_countPlaced, 4, (some .int)), false, 2)
noncomputable def mR_113 : sm_R := ((yX8_countWhy, cX8_countWhy, 4, (some .int)), false, 2)
noncomputable def mR_114 : sm_R := ((yX9_init, cX9_init, 1, none), false, 1)
noncomputable def mR_115 : sm_R := ((yX9_question, cX9_question, 4, (some .int)), false, 4)
noncomputable def mR_116 : sm_R := ((yX9_may, cX9_may, 5, (some .boolean)), false, 5)
noncomputable def mR_117 : sm_R := ((yX9_mays, cX9_mays, 4, (some .int)), false, 4)
noncomputable def mR_118 : sm_R := ((yX9_thing, cX9_thing, 5, (some .int)), false, 5)
noncomputable def mR_119 : sm_R := ((yX9_report, cX9_report, 2, (some .int)), false, 2)
noncomputable def mR_120 : sm_R := ((yX9_mark, cX9_mark, 5, (some .boolean)), false, 5)
noncomputable def mR_121 : sm_R := ((yX9_tear, cX9_tear, 4, (some .boolean)), false, 4)
noncomputable def mR_122 : sm_R := ((yX9_known, cX9_known, 4, (some .int)), false, 4)
noncomputable def mR_123 : sm_R := ((yX9_length, cX9_length, 3, (some .int)), false, 3)
noncomputable def mR_124 : sm_R := ((yX9_isThere, cX9_isThere, 3, (some .boolean)), false, 3)
noncomputable def mR_125 : sm_R := ((yX9_rowsOf, cX9_rowsOf, 2, (some (.object "FoundOffice$Rows"))), false, 2)
noncomputable def mR_126 : sm_R := ((yX9_fits, cX9_fits, 3, (some .int)), false, 3)
noncomputable def mR_127 : sm_R := ((yX9_tells, cX9_tells, 3, (some .int)), false, 3)
noncomputable def mR_128 : sm_R := ((yX9_strength, cX9_strength, 3, (some .int)), false, 3)
noncomputable def mR_129 : sm_R := ((yX9_arePair, cX9_arePair, 3, (some .boolean)), false, 3)
noncomputable def mR_130 : sm_R := ((yX9_fitting, cX9_fitting, 2, (some .int)), false, 2)
noncomputable def mR_131 : sm_R := ((yX9_fit, cX9_fit, 7, (some .int)), false, 3)
noncomputable def mR_132 : sm_R := ((yX9_isIn, cX9_isIn, 3, (some .boolean)), true, 2)
noncomputable def mR_133 : sm_R := ((yX9_best, cX9_best, 3, (some .int)), false, 2)
noncomputable def mR_134 : sm_R := ((yX9_sum, cX9_sum, 3, (some .int)), false, 2)
noncomputable def mR_135 : sm_R := ((yX9_also, cX9_also, 4, (some .int)), false, 2)
noncomputable def mR_136 : sm_R := ((yX9_matchGroup, cX9_matchGroup, 2, (some .int)), false, 2)
noncomputable def mR_137 : sm_R := ((yX9_group, cX9_group, 3, (some .int)), false, 3)
noncomputable def mR_138 : sm_R := ((yX9_like, cX9_like, 3, (some .int)), false, 3)
noncomputable def mR_139 : sm_R := ((yX9_parts, cX9_parts, 3, (some .int)), false, 3)
noncomputable def mR_140 : sm_R := ((yX9_ask, cX9_ask, 2, (some .int)), false, 2)
noncomputable def mR_141 : sm_R := ((yX9_fewest, cX9_fewest, 4, (some .int)), false, 2)
noncomputable def mR_142 : sm_R := ((yX9_claim, cX9_claim, 3, (some .int)), false, 3)
noncomputable def mR_143 : sm_R := ((yX9_prove, cX9_prove, 5, (some .int)), false, 4)
noncomputable def mR_144 : sm_R := ((yX9_give, cX9_give, 4, (some .int)), false, 2)
noncomputable def mR_145 : sm_R := ((yX9_withdraw, cX9_withdraw, 2, (some .boolean)), false, 2)
noncomputable def mR_146 : sm_R := ((yX9_close, cX9_close, 2, (some .boolean)), false, 2)
noncomputable def mR_147 : sm_R := ((yX9_shut, cX9_shut, 2, none), false, 2)
noncomputable def mR_148 : sm_R := ((yX9_claimed, cX9_claimed, 3, (some .int)), false, 3)
noncomputable def mR_149 : sm_R := ((yX9_into, cX9_into, 3, (some .boolean)), false, 3)
noncomputable def mR_150 : sm_R := ((yX9_place, cX9_place, 3, (some .int)), false, 3)
noncomputable def mR_151 : sm_R := ((yX9_days, cX9_days, 3, (some .boolean)), false, 3)
noncomputable def mR_152 : sm_R := ((yX9_day, cX9_day, 4, (some .int)), false, 2)
noncomputable def mR_153 : sm_R := ((yX9_passDay, cX9_passDay, 2, none), false, 1)
noncomputable def mR_154 : sm_R := ((yX9_ripen, cX9_ripen, 4, none), false, 2)
noncomputable def mR_155 : sm_R := ((yX9_sendWithContents, cX9_sendWithContents, 8, none), false, 4)
noncomputable def mR_156 : sm_R := ((yX9_sendOut, cX9_sendOut, 4, none), false, 4)
noncomputable def mR_157 : sm_R := ((yX9_count, cX9_count, 2, (some .int)), false, 2)
noncomputable def mR_158 : sm_R := ((yX9_gone, cX9_gone, 2, (some .int)), false, 2)
noncomputable def mR_159 : sm_R := ((yX10_init, cX10_init, 2, none), false, 1)
noncomputable def mR_160 : sm_R := ((yX10_thrown, cX10_thrown, 1, (some .int)), false, 1)
noncomputable def mR_161 : sm_R := ((yX10_in, cX10_in, 3, (some .boolean)), true, 3)
noncomputable def mR_162 : sm_R := ((yX10_question, cX10_question, 5, (some .int)), false, 4)
noncomputable def mR_163 : sm_R := ((yX10_isQuestion, cX10_isQuestion, 2, (some .boolean)), false, 2)
noncomputable def mR_164 : sm_R := ((yX10_isAnswer, cX10_isAnswer, 3, (some .boolean)), false, 3)
noncomputable def mR_165 : sm_R := ((yX10_mayBe, cX10_mayBe, 6, (some .boolean)), false, 4)
noncomputable def mR_166 : sm_R := ((yX10_may, cX10_may, 5, (some .boolean)), false, 5)
noncomputable def mR_167 : sm_R := ((yX10_mays, cX10_mays, 4, (some .int)), false, 4)
noncomputable def mR_168 : sm_R := ((yX10_isThing, cX10_isThing, 2, (some .boolean)), false, 2)
noncomputable def mR_169 : sm_R := ((yX10_isReport, cX10_isReport, 2, (some .boolean)), false, 2)
noncomputable def mR_170 : sm_R := ((yX10_isOut, cX10_isOut, 2, (some .boolean)), false, 2)
noncomputable def mR_171 : sm_R := ((yX10_isBag, cX10_isBag, 2, (some .boolean)), false, 2)
noncomputable def mR_172 : sm_R := ((yX10_thing, cX10_thing, 5, (some .int)), false, 5)
noncomputable def mR_173 : sm_R := ((yX10_report, cX10_report, 2, (some .int)), false, 2)
noncomputable def mR_174 : sm_R := ((yX10_rowOf, cX10_rowOf, 3, (some .int)), false, 3)
noncomputable def mR_175 : sm_R := ((yX10_mark, cX10_mark, 6, (some .boolean)), false, 5)
noncomputable def mR_176 : sm_R := ((yX10_tear, cX10_tear, 6, (some .boolean)), false, 4)
noncomputable def mR_177 : sm_R := ((yX10_knows, cX10_knows, 3, (some .int)), false, 3)
noncomputable def mR_178 : sm_R := ((yX10_known, cX10_known, 5, (some .int)), false, 4)
noncomputable def mR_179 : sm_R := ((yX10_length, cX10_length, 4, (some .int)), false, 3)
noncomputable def mR_180 : sm_R := ((yX10_apart, cX10_apart, 6, (some .int)), false, 3)
noncomputable def mR_181 : sm_R := ((yX10_isFit, cX10_isFit, 3, (some .boolean)), false, 3)
noncomputable def mR_182 : sm_R := ((yX10_isFitIn, cX10_isFitIn, 3, (some .boolean)), false, 3)
noncomputable def mR_183 : sm_R := ((yX10_fits, cX10_fits, 3, (some .int)), false, 3)
noncomputable def mR_184 : sm_R := ((yX10_tells, cX10_tells, 3, (some .int)), false, 3)
noncomputable def mR_185 : sm_R := ((yX10_strengthOf, cX10_strengthOf, 7, (some .int)), false, 3)
noncomputable def mR_186 : sm_R := ((yX10_strength, cX10_strength, 3, (some .int)), false, 3)
noncomputable def mR_187 : sm_R := ((yX10_fitting0, cX10_fitting0, 4, (some .int)), false, 2)
noncomputable def mR_188 : sm_R := ((yX10_fitting, cX10_fitting, 2, (some .int)), false, 2)
noncomputable def mR_189 : sm_R := ((yX10_fit, cX10_fit, 5, (some .int)), false, 3)
noncomputable def mR_190 : sm_R := ((yX10_findGroup, cX10_findGroup, 5, none), false, 2)
noncomputable def mR_191 : sm_R := ((yX10_isTooLarge, cX10_isTooLarge, 1, (some .boolean)), false, 1)
noncomputable def mR_192 : sm_R := ((yX10_worth, cX10_worth, 8, (some .long)), false, 3)
noncomputable def mR_193 : sm_R := ((yX10_match, cX10_match, 9, none), false, 1)
noncomputable def mR_194 : sm_R := ((yX10_isOpen, cX10_isOpen, 2, (some .boolean)), false, 2)
noncomputable def mR_195 : sm_R := ((yX10_given, cX10_given, 3, (some .int)), false, 2)
noncomputable def mR_196 : sm_R := ((yX10_best, cX10_best, 2, (some .int)), false, 2)
noncomputable def mR_197 : sm_R := ((yX10_sum, cX10_sum, 2, (some .int)), false, 2)
noncomputable def mR_198 : sm_R := ((yX10_also, cX10_also, 6, (some .int)), false, 2)
noncomputable def mR_199 : sm_R := ((yX10_group, cX10_group, 3, (some .int)), false, 3)
noncomputable def mR_200 : sm_R := ((yX10_like, cX10_like, 4, (some .int)), false, 3)
noncomputable def mR_201 : sm_R := ((yX10_findFitted, cX10_findFitted, 3, none), false, 2)
noncomputable def mR_202 : sm_R := ((yX10_classes, cX10_classes, 6, (some .int)), false, 2)
noncomputable def mR_203 : sm_R := ((yX10_parts, cX10_parts, 3, (some .int)), false, 3)
noncomputable def mR_204 : sm_R := ((yX10_ask, cX10_ask, 6, (some .int)), false, 2)
noncomputable def mR_205 : sm_R := ((yX10_classOf, cX10_classOf, 6, (some .int)), false, 4)
noncomputable def mR_206 : sm_R := ((yX10_worst, cX10_worst, 7, (some .int)), false, 3)
noncomputable def mR_207 : sm_R := ((yX10_fewest, cX10_fewest, 6, (some .int)), false, 2)
noncomputable def mR_208 : sm_R := ((yX10_stands, cX10_stands, 2, (some .boolean)), false, 2)
noncomputable def mR_209 : sm_R := ((yX10_standing, cX10_standing, 4, (some .int)), false, 2)
noncomputable def mR_210 : sm_R := ((yX10_claim, cX10_claim, 4, (some .int)), false, 3)
noncomputable def mR_211 : sm_R := ((yX10_prove, cX10_prove, 5, (some .int)), false, 4)
noncomputable def mR_212 : sm_R := ((yX10_goesOut, cX10_goesOut, 5, none), false, 4)
noncomputable def mR_213 : sm_R := ((yX10_withdrawAll, cX10_withdrawAll, 3, none), false, 2)
noncomputable def mR_214 : sm_R := ((yX10_give, cX10_give, 5, (some .int)), false, 2)
noncomputable def mR_215 : sm_R := ((yX10_withdraw, cX10_withdraw, 2, (some .boolean)), false, 2)
noncomputable def mR_216 : sm_R := ((yX10_close, cX10_close, 2, (some .boolean)), false, 2)
noncomputable def mR_217 : sm_R := ((yX10_claimed, cX10_claimed, 3, (some .int)), false, 3)
noncomputable def mR_218 : sm_R := ((yX10_into, cX10_into, 4, (some .boolean)), false, 3)
noncomputable def mR_219 : sm_R := ((yX10_inside, cX10_inside, 4, (some .int)), false, 2)
noncomputable def mR_220 : sm_R := ((yX10_place, cX10_place, 3, (some .int)), false, 3)
noncomputable def mR_221 : sm_R := ((yX10_days, cX10_days, 3, (some .boolean)), false, 3)
noncomputable def mR_222 : sm_R := ((yX10_oneDay, cX10_oneDay, 2, none), false, 1)
noncomputable def mR_223 : sm_R := ((yX10_day, cX10_day, 4, (some .int)), false, 2)
noncomputable def mR_224 : sm_R := ((yX10_count, cX10_count, 4, (some .int)), false, 2)
noncomputable def mR_225 : sm_R := ((yX10_gone, cX10_gone, 2, (some .int)), false, 2)
noncomputable def mR_226 : sm_R := ((yJ6_bitCount_0f7a4, cJ6_bitCount_0f7a4, 1, (some .int)), true, 1)
noncomputable def mR_227 : sm_R := ((yJ13_bitCount_95d88, cJ13_bitCount_95d88, 2, (some .int)), true, 1)
noncomputable def sm_ms : List sm_R := [mR_0, mR_1, mR_2, mR_3, mR_4, mR_5, mR_6, mR_7, mR_8, mR_9, mR_10, mR_11, mR_12, mR_13, mR_14, mR_15, mR_16, mR_17, mR_18, mR_19, mR_20, mR_21, mR_22, mR_23, mR_24, mR_25, mR_26, mR_27, mR_28, mR_29, mR_30, mR_31, mR_32, mR_33, mR_34, mR_35, mR_36, mR_37, mR_38, mR_39, mR_40, mR_41, mR_42, mR_43, mR_44, mR_45, mR_46, mR_47, mR_48, mR_49, mR_50, mR_51, mR_52, mR_53, mR_54, mR_55, mR_56, mR_57, mR_58, mR_59, mR_60, mR_61, mR_62, mR_63, mR_64, mR_65, mR_66, mR_67, mR_68, mR_69, mR_70, mR_71, mR_72, mR_73, mR_74, mR_75, mR_76, mR_77, mR_78, mR_79, mR_80, mR_81, mR_82, mR_83, mR_84, mR_85, mR_86, mR_87, mR_88, mR_89, mR_90, mR_91, mR_92, mR_93, mR_94, mR_95, mR_96, mR_97, mR_98, mR_99, mR_100, mR_101, mR_102, mR_103, mR_104, mR_105, mR_106, mR_107, mR_108, mR_109, mR_110, mR_111, mR_112, mR_113, mR_114, mR_115, mR_116, mR_117, mR_118, mR_119, mR_120, mR_121, mR_122, mR_123, mR_124, mR_125, mR_126, mR_127, mR_128, mR_129, mR_130, mR_131, mR_132, mR_133, mR_134, mR_135, mR_136, mR_137, mR_138, mR_139, mR_140, mR_141, mR_142, mR_143, mR_144, mR_145, mR_146, mR_147, mR_148, mR_149, mR_150, mR_151, mR_152, mR_153, mR_154, mR_155, mR_156, mR_157, mR_158, mR_159, mR_160, mR_161, mR_162, mR_163, mR_164, mR_165, mR_166, mR_167, mR_168, mR_169, mR_170, mR_171, mR_172, mR_173, mR_174, mR_175, mR_176, mR_177, mR_178, mR_179, mR_180, mR_181, mR_182, mR_183, mR_184, mR_185, mR_186, mR_187, mR_188, mR_189, mR_190, mR_191, mR_192, mR_193, mR_194, mR_195, mR_196, mR_197, mR_198, mR_199, mR_200, mR_201, mR_202, mR_203, mR_204, mR_205, mR_206, mR_207, mR_208, mR_209, mR_210, mR_211, mR_212, mR_213, mR_214, mR_215, mR_216, mR_217, mR_218, mR_219, mR_220, mR_221, mR_222, mR_223, mR_224, mR_225, mR_226, mR_227, mR_0, mR_0, mR_0, mR_0, mR_0]
noncomputable def sm_mt (mid : Nat) : sm_R := sm_ms.getD mid mR_0
theorem mt_2 : sm_mt 2 = ((yX0_isAlike, cX0_isAlike, 4, (some .boolean)), false, 3) := rfl
theorem mok_X0_isAlike : sm_mok (yX0_isAlike, cX0_isAlike, 4, (some .boolean)) := ⟨sm_b3 162 rfl rfl, sm_b1 10 rfl rfl, by decide +kernel, by decide +kernel, by decide +kernel, by decide⟩
theorem mt_3 : sm_mt 3 = ((yX0_countClasses, cX0_countClasses, 6, (some .int)), false, 3) := rfl
theorem mok_X0_countClasses : sm_mok (yX0_countClasses, cX0_countClasses, 6, (some .int)) := ⟨sm_b3 175 rfl rfl, sm_b1 10 rfl rfl, by decide +kernel, by decide +kernel, by decide +kernel, by decide⟩
theorem mt_4 : sm_mt 4 = ((yX0_isFirstOfClass, cX0_isFirstOfClass, 7, (some .boolean)), false, 4) := rfl
theorem mok_X0_isFirstOfClass : sm_mok (yX0_isFirstOfClass, cX0_isFirstOfClass, 7, (some .boolean)) := ⟨sm_b3 180 rfl rfl, sm_b1 10 rfl rfl, by decide +kernel, by decide +kernel, by decide +kernel, by decide⟩
theorem mt_5 : sm_mt 5 = ((yX0_mostParting, cX0_mostParting, 7, (some .int)), false, 2) := rfl
theorem mok_X0_mostParting : sm_mok (yX0_mostParting, cX0_mostParting, 7, (some .int)) := ⟨sm_b3 188 rfl rfl, sm_b1 10 rfl rfl, by decide +kernel, by decide +kernel, by decide +kernel, by decide⟩
theorem mt_6 : sm_mt 6 = ((yX0_neededFor, cX0_neededFor, 5, (some .int)), false, 2) := rfl
theorem mok_X0_neededFor : sm_mok (yX0_neededFor, cX0_neededFor, 5, (some .int)) := ⟨sm_b3 197 rfl rfl, sm_b1 10 rfl rfl, by decide +kernel, by decide +kernel, by decide +kernel, by decide⟩
theorem mt_7 : sm_mt 7 = ((yX0_listDistinct, cX0_listDistinct, 4, none), false, 2) := rfl
theorem mok_X0_listDistinct : sm_mok (yX0_listDistinct, cX0_listDistinct, 4, none) := ⟨sm_b3 201 rfl rfl, sm_b1 10 rfl rfl, by decide +kernel, by decide +kernel, by decide +kernel, by decide⟩
theorem mt_8 : sm_mt 8 = ((yX0_isListed, cX0_isListed, 3, (some .boolean)), false, 2) := rfl
theorem mok_X0_isListed : sm_mok (yX0_isListed, cX0_isListed, 3, (some .boolean)) := ⟨sm_b3 205 rfl rfl, sm_b1 10 rfl rfl, by decide +kernel, by decide +kernel, by decide +kernel, by decide⟩
theorem mt_9 : sm_mt 9 = ((yX0_classOf, cX0_classOf, 6, (some .int)), false, 3) := rfl
theorem mok_X0_classOf : sm_mok (yX0_classOf, cX0_classOf, 6, (some .int)) := ⟨sm_b3 210 rfl rfl, sm_b1 10 rfl rfl, by decide +kernel, by decide +kernel, by decide +kernel, by decide⟩
theorem mt_10 : sm_mt 10 = ((yX0_search, cX0_search, 7, (some .int)), false, 3) := rfl
theorem mok_X0_search : sm_mok (yX0_search, cX0_search, 7, (some .int)) := ⟨sm_b3 214 rfl rfl, sm_b1 10 rfl rfl, by decide +kernel, by decide +kernel, by decide +kernel, by decide⟩
theorem mt_11 : sm_mt 11 = ((yX0_neededBehind, cX0_neededBehind, 9, (some .int)), false, 5) := rfl
theorem mok_X0_neededBehind : sm_mok (yX0_neededBehind, cX0_neededBehind, 9, (some .int)) := ⟨sm_b3 233 rfl rfl, sm_b1 10 rfl rfl, by decide +kernel, by decide +kernel, by decide +kernel, by decide⟩
theorem mt_12 : sm_mt 12 = ((yX0_lowerBound, cX0_lowerBound, 6, (some .int)), false, 3) := rfl
theorem mok_X0_lowerBound : sm_mok (yX0_lowerBound, cX0_lowerBound, 6, (some .int)) := ⟨sm_b3 224 rfl rfl, sm_b1 10 rfl rfl, by decide +kernel, by decide +kernel, by decide +kernel, by decide⟩
theorem mt_13 : sm_mt 13 = ((yX0_countParts, cX0_countParts, 6, (some .int)), false, 3) := rfl
theorem mok_X0_countParts : sm_mok (yX0_countParts, cX0_countParts, 6, (some .int)) := ⟨sm_b3 228 rfl rfl, sm_b1 10 rfl rfl, by decide +kernel, by decide +kernel, by decide +kernel, by decide⟩
theorem mt_15 : sm_mt 15 = ((yX1_start, cX1_start, 4, none), false, 3) := rfl
theorem mok_X1_start : sm_mok (yX1_start, cX1_start, 4, none) := ⟨sm_b3 70 rfl rfl, sm_b1 9 rfl rfl, by decide +kernel, by decide +kernel, by decide +kernel, by decide⟩
theorem mt_16 : sm_mt 16 = ((yX1_allow, cX1_allow, 7, none), false, 4) := rfl
theorem mok_X1_allow : sm_mok (yX1_allow, cX1_allow, 7, none) := ⟨sm_b3 79 rfl rfl, sm_b1 9 rfl rfl, by decide +kernel, by decide +kernel, by decide +kernel, by decide⟩
theorem mt_17 : sm_mt 17 = ((yX1_solve, cX1_solve, 2, none), false, 1) := rfl
theorem mok_X1_solve : sm_mok (yX1_solve, cX1_solve, 2, none) := ⟨sm_b3 85 rfl rfl, sm_b1 9 rfl rfl, by decide +kernel, by decide +kernel, by decide +kernel, by decide⟩
theorem mt_18 : sm_mt 18 = ((yX1_reachFree, cX1_reachFree, 3, (some .int)), false, 1) := rfl
theorem mok_X1_reachFree : sm_mok (yX1_reachFree, cX1_reachFree, 3, (some .int)) := ⟨sm_b3 89 rfl rfl, sm_b1 9 rfl rfl, by decide +kernel, by decide +kernel, by decide +kernel, by decide⟩
theorem mt_19 : sm_mt 19 = ((yX1_holderOf, cX1_holderOf, 2, (some .int)), false, 2) := rfl
theorem mok_X1_holderOf : sm_mok (yX1_holderOf, cX1_holderOf, 2, (some .int)) := ⟨sm_b3 94 rfl rfl, sm_b1 9 rfl rfl, by decide +kernel, by decide +kernel, by decide +kernel, by decide⟩
theorem mt_20 : sm_mt 20 = ((yX1_lookFrom, cX1_lookFrom, 6, none), false, 2) := rfl
theorem mok_X1_lookFrom : sm_mok (yX1_lookFrom, cX1_lookFrom, 6, none) := ⟨sm_b3 98 rfl rfl, sm_b1 9 rfl rfl, by decide +kernel, by decide +kernel, by decide +kernel, by decide⟩
theorem mt_21 : sm_mt 21 = ((yX1_nearest, cX1_nearest, 5, (some .int)), false, 1) := rfl
theorem mok_X1_nearest : sm_mok (yX1_nearest, cX1_nearest, 5, (some .int)) := ⟨sm_b3 102 rfl rfl, sm_b1 9 rfl rfl, by decide +kernel, by decide +kernel, by decide +kernel, by decide⟩
theorem mt_22 : sm_mt 22 = ((yX1_changePrices, cX1_changePrices, 4, none), false, 2) := rfl
theorem mok_X1_changePrices : sm_mok (yX1_changePrices, cX1_changePrices, 4, none) := ⟨sm_b3 106 rfl rfl, sm_b1 9 rfl rfl, by decide +kernel, by decide +kernel, by decide +kernel, by decide⟩
theorem mt_23 : sm_mt 23 = ((yX1_passOn, cX1_passOn, 5, none), false, 2) := rfl
theorem mok_X1_passOn : sm_mok (yX1_passOn, cX1_passOn, 5, none) := ⟨sm_b3 110 rfl rfl, sm_b1 9 rfl rfl, by decide +kernel, by decide +kernel, by decide +kernel, by decide⟩
theorem mt_24 : sm_mt 24 = ((yX1_columnOf, cX1_columnOf, 3, (some .int)), false, 2) := rfl
theorem mok_X1_columnOf : sm_mok (yX1_columnOf, cX1_columnOf, 3, (some .int)) := ⟨sm_b3 118 rfl rfl, sm_b1 9 rfl rfl, by decide +kernel, by decide +kernel, by decide +kernel, by decide⟩
theorem mt_25 : sm_mt 25 = ((yX1_gainOf, cX1_gainOf, 3, (some .int)), false, 2) := rfl
theorem mok_X1_gainOf : sm_mok (yX1_gainOf, cX1_gainOf, 3, (some .int)) := ⟨sm_b3 130 rfl rfl, sm_b1 9 rfl rfl, by decide +kernel, by decide +kernel, by decide +kernel, by decide⟩
theorem mt_27 : sm_mt 27 = ((yX2_size, cX2_size, 1, (some .int)), false, 1) := rfl
theorem mok_X2_size : sm_mok (yX2_size, cX2_size, 1, (some .int)) := ⟨sm_b4 182 rfl rfl, sm_b1 6 rfl rfl, by decide +kernel, by decide +kernel, by decide +kernel, by decide⟩
theorem mt_28 : sm_mt 28 = ((yX2_has, cX2_has, 2, (some .boolean)), false, 2) := rfl
theorem mok_X2_has : sm_mok (yX2_has, cX2_has, 2, (some .boolean)) := ⟨sm_b4 33 rfl rfl, sm_b1 6 rfl rfl, by decide +kernel, by decide +kernel, by decide +kernel, by decide⟩
theorem mt_29 : sm_mt 29 = ((yX2_isFull, cX2_isFull, 1, (some .boolean)), false, 1) := rfl
theorem mok_X2_isFull : sm_mok (yX2_isFull, cX2_isFull, 1, (some .boolean)) := ⟨sm_b4 11 rfl rfl, sm_b1 6 rfl rfl, by decide +kernel, by decide +kernel, by decide +kernel, by decide⟩
theorem mt_30 : sm_mt 30 = ((yX2_isStanding, cX2_isStanding, 2, (some .boolean)), false, 2) := rfl
theorem mok_X2_isStanding : sm_mok (yX2_isStanding, cX2_isStanding, 2, (some .boolean)) := ⟨sm_b4 7 rfl rfl, sm_b1 6 rfl rfl, by decide +kernel, by decide +kernel, by decide +kernel, by decide⟩
theorem mt_31 : sm_mt 31 = ((yX2_stateOf, cX2_stateOf, 2, (some .int)), false, 2) := rfl
theorem mok_X2_stateOf : sm_mok (yX2_stateOf, cX2_stateOf, 2, (some .int)) := ⟨sm_b4 53 rfl rfl, sm_b1 6 rfl rfl, by decide +kernel, by decide +kernel, by decide +kernel, by decide⟩
theorem mt_32 : sm_mt 32 = ((yX2_reportOf, cX2_reportOf, 2, (some .int)), false, 2) := rfl
theorem mok_X2_reportOf : sm_mok (yX2_reportOf, cX2_reportOf, 2, (some .int)) := ⟨sm_b4 29 rfl rfl, sm_b1 6 rfl rfl, by decide +kernel, by decide +kernel, by decide +kernel, by decide⟩
theorem mt_33 : sm_mt 33 = ((yX2_thingOf, cX2_thingOf, 2, (some .int)), false, 2) := rfl
theorem mok_X2_thingOf : sm_mok (yX2_thingOf, cX2_thingOf, 2, (some .int)) := ⟨sm_b4 37 rfl rfl, sm_b1 6 rfl rfl, by decide +kernel, by decide +kernel, by decide +kernel, by decide⟩
theorem mt_34 : sm_mt 34 = ((yX2_standingOn, cX2_standingOn, 2, (some .int)), false, 2) := rfl
theorem mok_X2_standingOn : sm_mok (yX2_standingOn, cX2_standingOn, 2, (some .int)) := ⟨sm_b4 107 rfl rfl, sm_b1 6 rfl rfl, by decide +kernel, by decide +kernel, by decide +kernel, by decide⟩
theorem mt_35 : sm_mt 35 = ((yX2_isTarget, cX2_isTarget, 2, (some .boolean)), false, 2) := rfl
theorem mok_X2_isTarget : sm_mok (yX2_isTarget, cX2_isTarget, 2, (some .boolean)) := ⟨sm_b4 20 rfl rfl, sm_b1 6 rfl rfl, by decide +kernel, by decide +kernel, by decide +kernel, by decide⟩
theorem mt_36 : sm_mt 36 = ((yX2_standingCount, cX2_standingCount, 3, (some .int)), false, 1) := rfl
theorem mok_X2_standingCount : sm_mok (yX2_standingCount, cX2_standingCount, 3, (some .int)) := ⟨sm_b4 186 rfl rfl, sm_b1 6 rfl rfl, by decide +kernel, by decide +kernel, by decide +kernel, by decide⟩
theorem mt_37 : sm_mt 37 = ((yX2_add, cX2_add, 4, (some .int)), false, 3) := rfl
theorem mok_X2_add : sm_mok (yX2_add, cX2_add, 4, (some .int)) := ⟨sm_b4 15 rfl rfl, sm_b1 6 rfl rfl, by decide +kernel, by decide +kernel, by decide +kernel, by decide⟩
theorem mt_38 : sm_mt 38 = ((yX2_isClaimedBy, cX2_isClaimedBy, 4, (some .boolean)), false, 3) := rfl
theorem mok_X2_isClaimedBy : sm_mok (yX2_isClaimedBy, cX2_isClaimedBy, 4, (some .boolean)) := ⟨sm_b4 3 rfl rfl, sm_b1 6 rfl rfl, by decide +kernel, by decide +kernel, by decide +kernel, by decide⟩
theorem mt_39 : sm_mt 39 = ((yX2_isProvedAhead, cX2_isProvedAhead, 4, (some .boolean)), false, 3) := rfl
theorem mok_X2_isProvedAhead : sm_mok (yX2_isProvedAhead, cX2_isProvedAhead, 4, (some .boolean)) := ⟨sm_b4 57 rfl rfl, sm_b1 6 rfl rfl, by decide +kernel, by decide +kernel, by decide +kernel, by decide⟩
theorem mt_40 : sm_mt 40 = ((yX2_isFirstAsked, cX2_isFirstAsked, 2, (some .boolean)), false, 2) := rfl
theorem mok_X2_isFirstAsked : sm_mok (yX2_isFirstAsked, cX2_isFirstAsked, 2, (some .boolean)) := ⟨sm_b4 66 rfl rfl, sm_b1 6 rfl rfl, by decide +kernel, by decide +kernel, by decide +kernel, by decide⟩
theorem mt_41 : sm_mt 41 = ((yX2_setProved, cX2_setProved, 2, none), false, 2) := rfl
theorem mok_X2_setProved : sm_mok (yX2_setProved, cX2_setProved, 2, none) := ⟨sm_b4 45 rfl rfl, sm_b1 6 rfl rfl, by decide +kernel, by decide +kernel, by decide +kernel, by decide⟩
theorem mt_42 : sm_mt 42 = ((yX2_finish, cX2_finish, 4, none), false, 3) := rfl
theorem mok_X2_finish : sm_mok (yX2_finish, cX2_finish, 4, none) := ⟨sm_b4 41 rfl rfl, sm_b1 6 rfl rfl, by decide +kernel, by decide +kernel, by decide +kernel, by decide⟩
theorem mt_43 : sm_mt 43 = ((yX2_finishAllOf, cX2_finishAllOf, 4, none), false, 3) := rfl
theorem mok_X2_finishAllOf : sm_mok (yX2_finishAllOf, cX2_finishAllOf, 4, none) := ⟨sm_b4 78 rfl rfl, sm_b1 6 rfl rfl, by decide +kernel, by decide +kernel, by decide +kernel, by decide⟩
theorem mt_44 : sm_mt 44 = ((yX2_finishAllOn, cX2_finishAllOn, 4, none), false, 3) := rfl
theorem mok_X2_finishAllOn : sm_mok (yX2_finishAllOn, cX2_finishAllOn, 4, none) := ⟨sm_b4 95 rfl rfl, sm_b1 6 rfl rfl, by decide +kernel, by decide +kernel, by decide +kernel, by decide⟩
theorem mt_46 : sm_mt 46 = ((yX3_reportCount, cX3_reportCount, 1, (some .int)), false, 1) := rfl
theorem mok_X3_reportCount : sm_mok (yX3_reportCount, cX3_reportCount, 1, (some .int)) := ⟨sm_b3 150 rfl rfl, sm_b1 8 rfl rfl, by decide +kernel, by decide +kernel, by decide +kernel, by decide⟩
theorem mt_47 : sm_mt 47 = ((yX3_thingCount, cX3_thingCount, 1, (some .int)), false, 1) := rfl
theorem mok_X3_thingCount : sm_mok (yX3_thingCount, cX3_thingCount, 1, (some .int)) := ⟨sm_b3 154 rfl rfl, sm_b1 8 rfl rfl, by decide +kernel, by decide +kernel, by decide +kernel, by decide⟩
theorem mt_48 : sm_mt 48 = ((yX3_isTooLarge, cX3_isTooLarge, 1, (some .boolean)), false, 1) := rfl
theorem mok_X3_isTooLarge : sm_mok (yX3_isTooLarge, cX3_isTooLarge, 1, (some .boolean)) := ⟨sm_b3 61 rfl rfl, sm_b1 8 rfl rfl, by decide +kernel, by decide +kernel, by decide +kernel, by decide⟩
theorem mt_49 : sm_mt 49 = ((yX3_gather, cX3_gather, 3, none), false, 2) := rfl
theorem mok_X3_gather : sm_mok (yX3_gather, cX3_gather, 3, none) := ⟨sm_b3 42 rfl rfl, sm_b1 8 rfl rfl, by decide +kernel, by decide +kernel, by decide +kernel, by decide⟩
theorem mt_50 : sm_mt 50 = ((yX3_hangTogether, cX3_hangTogether, 9, (some .long)), false, 2) := rfl
theorem mok_X3_hangTogether : sm_mok (yX3_hangTogether, cX3_hangTogether, 9, (some .long)) := ⟨sm_b3 52 rfl rfl, sm_b1 8 rfl rfl, by decide +kernel, by decide +kernel, by decide +kernel, by decide⟩
theorem mt_51 : sm_mt 51 = ((yX3_listMembers, cX3_listMembers, 6, none), false, 2) := rfl
theorem mok_X3_listMembers : sm_mok (yX3_listMembers, cX3_listMembers, 6, none) := ⟨sm_b3 57 rfl rfl, sm_b1 8 rfl rfl, by decide +kernel, by decide +kernel, by decide +kernel, by decide⟩
theorem mt_52 : sm_mt 52 = ((yX3_findBestWay, cX3_findBestWay, 4, none), false, 1) := rfl
theorem mok_X3_findBestWay : sm_mok (yX3_findBestWay, cX3_findBestWay, 4, none) := ⟨sm_b3 65 rfl rfl, sm_b1 8 rfl rfl, by decide +kernel, by decide +kernel, by decide +kernel, by decide⟩
theorem mt_53 : sm_mt 53 = ((yX3_strengthSum, cX3_strengthSum, 3, (some .int)), false, 1) := rfl
theorem mok_X3_strengthSum : sm_mok (yX3_strengthSum, cX3_strengthSum, 3, (some .int)) := ⟨sm_b3 126 rfl rfl, sm_b1 8 rfl rfl, by decide +kernel, by decide +kernel, by decide +kernel, by decide⟩
theorem mt_54 : sm_mt 54 = ((yX3_givenTo, cX3_givenTo, 4, (some .int)), false, 2) := rfl
theorem mok_X3_givenTo : sm_mok (yX3_givenTo, cX3_givenTo, 4, (some .int)) := ⟨sm_b3 114 rfl rfl, sm_b1 8 rfl rfl, by decide +kernel, by decide +kernel, by decide +kernel, by decide⟩
theorem mt_56 : sm_mt 56 = ((yX4_firstClash, cX4_firstClash, 5, (some .int)), false, 3) := rfl
theorem mok_X4_firstClash : sm_mok (yX4_firstClash, cX4_firstClash, 5, (some .int)) := ⟨sm_b2 202 rfl rfl, sm_b1 7 rfl rfl, by decide +kernel, by decide +kernel, by decide +kernel, by decide⟩
theorem mt_57 : sm_mt 57 = ((yX4_isFit, cX4_isFit, 3, (some .boolean)), false, 3) := rfl
theorem mok_X4_isFit : sm_mok (yX4_isFit, cX4_isFit, 3, (some .boolean)) := ⟨sm_b2 198 rfl rfl, sm_b1 7 rfl rfl, by decide +kernel, by decide +kernel, by decide +kernel, by decide⟩
theorem mt_58 : sm_mt 58 = ((yX4_fitSet, cX4_fitSet, 5, (some .long)), false, 2) := rfl
theorem mok_X4_fitSet : sm_mok (yX4_fitSet, cX4_fitSet, 5, (some .long)) := ⟨sm_b3 12 rfl rfl, sm_b1 7 rfl rfl, by decide +kernel, by decide +kernel, by decide +kernel, by decide⟩
theorem mt_59 : sm_mt 59 = ((yX4_weigh, cX4_weigh, 5, none), false, 2) := rfl
theorem mok_X4_weigh : sm_mok (yX4_weigh, cX4_weigh, 5, none) := ⟨sm_b2 226 rfl rfl, sm_b1 7 rfl rfl, by decide +kernel, by decide +kernel, by decide +kernel, by decide⟩
theorem mt_60 : sm_mt 60 = ((yX4_countHolders, cX4_countHolders, 6, (some .int)), false, 4) := rfl
theorem mok_X4_countHolders : sm_mok (yX4_countHolders, cX4_countHolders, 6, (some .int)) := ⟨sm_b2 230 rfl rfl, sm_b1 7 rfl rfl, by decide +kernel, by decide +kernel, by decide +kernel, by decide⟩
theorem mt_61 : sm_mt 61 = ((yX4_addWorths, cX4_addWorths, 4, (some .int)), false, 2) := rfl
theorem mok_X4_addWorths : sm_mok (yX4_addWorths, cX4_addWorths, 4, (some .int)) := ⟨sm_b3 4 rfl rfl, sm_b1 7 rfl rfl, by decide +kernel, by decide +kernel, by decide +kernel, by decide⟩
theorem mt_62 : sm_mt 62 = ((yX4_strengthOf, cX4_strengthOf, 3, (some .int)), false, 3) := rfl
theorem mok_X4_strengthOf : sm_mok (yX4_strengthOf, cX4_strengthOf, 3, (some .int)) := ⟨sm_b2 221 rfl rfl, sm_b1 7 rfl rfl, by decide +kernel, by decide +kernel, by decide +kernel, by decide⟩
theorem mt_63 : sm_mt 63 = ((yX4_countAsStrong, cX4_countAsStrong, 7, (some .int)), false, 3) := rfl
theorem mok_X4_countAsStrong : sm_mok (yX4_countAsStrong, cX4_countAsStrong, 7, (some .int)) := ⟨sm_b3 139 rfl rfl, sm_b1 7 rfl rfl, by decide +kernel, by decide +kernel, by decide +kernel, by decide⟩
theorem mt_65 : sm_mt 65 = ((yX5_size, cX5_size, 1, (some .int)), false, 1) := rfl
theorem mok_X5_size : sm_mok (yX5_size, cX5_size, 1, (some .int)) := ⟨sm_b3 166 rfl rfl, sm_b1 2 rfl rfl, by decide +kernel, by decide +kernel, by decide +kernel, by decide⟩
theorem mt_66 : sm_mt 66 = ((yX5_has, cX5_has, 2, (some .boolean)), false, 2) := rfl
theorem mok_X5_has : sm_mok (yX5_has, cX5_has, 2, (some .boolean)) := ⟨sm_b2 150 rfl rfl, sm_b1 2 rfl rfl, by decide +kernel, by decide +kernel, by decide +kernel, by decide⟩
theorem mt_67 : sm_mt 67 = ((yX5_weightOf, cX5_weightOf, 2, (some .int)), false, 2) := rfl
theorem mok_X5_weightOf : sm_mok (yX5_weightOf, cX5_weightOf, 2, (some .int)) := ⟨sm_b2 239 rfl rfl, sm_b1 2 rfl rfl, by decide +kernel, by decide +kernel, by decide +kernel, by decide⟩
theorem mt_68 : sm_mt 68 = ((yX5_add, cX5_add, 5, (some .int)), false, 4) := rfl
theorem mok_X5_add : sm_mok (yX5_add, cX5_add, 5, (some .int)) := ⟨sm_b2 71 rfl rfl, sm_b1 2 rfl rfl, by decide +kernel, by decide +kernel, by decide +kernel, by decide⟩
theorem mt_69 : sm_mt 69 = ((yX5_isNumberOf, cX5_isNumberOf, 2, (some .boolean)), true, 2) := rfl
theorem mok_X5_isNumberOf : sm_mok (yX5_isNumberOf, cX5_isNumberOf, 2, (some .boolean)) := ⟨sm_b2 74 rfl rfl, sm_b1 2 rfl rfl, by decide +kernel, by decide +kernel, by decide +kernel, by decide⟩
theorem mt_70 : sm_mt 70 = ((yX5_isAnswer, cX5_isAnswer, 3, (some .boolean)), false, 3) := rfl
theorem mok_X5_isAnswer : sm_mok (yX5_isAnswer, cX5_isAnswer, 3, (some .boolean)) := ⟨sm_b2 86 rfl rfl, sm_b1 2 rfl rfl, by decide +kernel, by decide +kernel, by decide +kernel, by decide⟩
theorem mt_71 : sm_mt 71 = ((yX5_tellOfTable, cX5_tellOfTable, 5, (some .boolean)), false, 5) := rfl
theorem mok_X5_tellOfTable : sm_mok (yX5_tellOfTable, cX5_tellOfTable, 5, (some .boolean)) := ⟨sm_b2 82 rfl rfl, sm_b1 2 rfl rfl, by decide +kernel, by decide +kernel, by decide +kernel, by decide⟩
theorem mt_72 : sm_mt 72 = ((yX5_tellOneWay, cX5_tellOneWay, 6, none), false, 4) := rfl
theorem mok_X5_tellOneWay : sm_mok (yX5_tellOneWay, cX5_tellOneWay, 6, none) := ⟨sm_b2 90 rfl rfl, sm_b1 2 rfl rfl, by decide +kernel, by decide +kernel, by decide +kernel, by decide⟩
theorem mt_73 : sm_mt 73 = ((yX5_agree, cX5_agree, 5, (some .boolean)), false, 4) := rfl
theorem mok_X5_agree : sm_mok (yX5_agree, cX5_agree, 5, (some .boolean)) := ⟨sm_b2 100 rfl rfl, sm_b1 2 rfl rfl, by decide +kernel, by decide +kernel, by decide +kernel, by decide⟩
theorem mt_75 : sm_mt 75 = ((yX6_size, cX6_size, 1, (some .int)), false, 1) := rfl
theorem mok_X6_size : sm_mok (yX6_size, cX6_size, 1, (some .int)) := ⟨sm_b3 47 rfl rfl, sm_b1 4 rfl rfl, by decide +kernel, by decide +kernel, by decide +kernel, by decide⟩
theorem mt_76 : sm_mt 76 = ((yX6_has, cX6_has, 2, (some .boolean)), false, 2) := rfl
theorem mok_X6_has : sm_mok (yX6_has, cX6_has, 2, (some .boolean)) := ⟨sm_b2 142 rfl rfl, sm_b1 4 rfl rfl, by decide +kernel, by decide +kernel, by decide +kernel, by decide⟩
theorem mt_77 : sm_mt 77 = ((yX6_isOpen, cX6_isOpen, 2, (some .boolean)), false, 2) := rfl
theorem mok_X6_isOpen : sm_mok (yX6_isOpen, cX6_isOpen, 2, (some .boolean)) := ⟨sm_b3 37 rfl rfl, sm_b1 4 rfl rfl, by decide +kernel, by decide +kernel, by decide +kernel, by decide⟩
theorem mt_78 : sm_mt 78 = ((yX6_personOf, cX6_personOf, 2, (some .int)), false, 2) := rfl
theorem mok_X6_personOf : sm_mok (yX6_personOf, cX6_personOf, 2, (some .int)) := ⟨sm_b4 83 rfl rfl, sm_b1 4 rfl rfl, by decide +kernel, by decide +kernel, by decide +kernel, by decide⟩
theorem mt_79 : sm_mt 79 = ((yX6_add, cX6_add, 3, (some .int)), false, 2) := rfl
theorem mok_X6_add : sm_mok (yX6_add, cX6_add, 3, (some .int)) := ⟨sm_b2 130 rfl rfl, sm_b1 4 rfl rfl, by decide +kernel, by decide +kernel, by decide +kernel, by decide⟩
theorem mt_80 : sm_mt 80 = ((yX6_shut, cX6_shut, 2, none), false, 2) := rfl
theorem mok_X6_shut : sm_mok (yX6_shut, cX6_shut, 2, none) := ⟨sm_b4 74 rfl rfl, sm_b1 4 rfl rfl, by decide +kernel, by decide +kernel, by decide +kernel, by decide⟩
theorem mt_81 : sm_mt 81 = ((yX6_openCount, cX6_openCount, 3, (some .int)), false, 1) := rfl
theorem mok_X6_openCount : sm_mok (yX6_openCount, cX6_openCount, 3, (some .int)) := ⟨sm_b4 178 rfl rfl, sm_b1 4 rfl rfl, by decide +kernel, by decide +kernel, by decide +kernel, by decide⟩
theorem mt_83 : sm_mt 83 = ((yX7_isRow, cX7_isRow, 1, (some .boolean)), true, 1) := rfl
theorem mok_X7_isRow : sm_mok (yX7_isRow, cX7_isRow, 1, (some .boolean)) := ⟨sm_b2 161 rfl rfl, sm_b1 3 rfl rfl, by decide +kernel, by decide +kernel, by decide +kernel, by decide⟩
theorem mt_84 : sm_mt 84 = ((yX7_lengthOf, cX7_lengthOf, 2, (some .int)), false, 2) := rfl
theorem mok_X7_lengthOf : sm_mok (yX7_lengthOf, cX7_lengthOf, 2, (some .int)) := ⟨sm_b2 186 rfl rfl, sm_b1 3 rfl rfl, by decide +kernel, by decide +kernel, by decide +kernel, by decide⟩
theorem mt_85 : sm_mt 85 = ((yX7_knownSetOf, cX7_knownSetOf, 2, (some .int)), false, 2) := rfl
theorem mok_X7_knownSetOf : sm_mok (yX7_knownSetOf, cX7_knownSetOf, 2, (some .int)) := ⟨sm_b2 206 rfl rfl, sm_b1 3 rfl rfl, by decide +kernel, by decide +kernel, by decide +kernel, by decide⟩
theorem mt_86 : sm_mt 86 = ((yX7_answerOf, cX7_answerOf, 3, (some .int)), false, 3) := rfl
theorem mok_X7_answerOf : sm_mok (yX7_answerOf, cX7_answerOf, 3, (some .int)) := ⟨sm_b2 178 rfl rfl, sm_b1 3 rfl rfl, by decide +kernel, by decide +kernel, by decide +kernel, by decide⟩
theorem mt_87 : sm_mt 87 = ((yX7_put, cX7_put, 5, none), false, 4) := rfl
theorem mok_X7_put : sm_mok (yX7_put, cX7_put, 5, none) := ⟨sm_b2 158 rfl rfl, sm_b1 3 rfl rfl, by decide +kernel, by decide +kernel, by decide +kernel, by decide⟩
theorem mt_88 : sm_mt 88 = ((yX7_cut, cX7_cut, 3, (some .boolean)), false, 3) := rfl
theorem mok_X7_cut : sm_mok (yX7_cut, cX7_cut, 3, (some .boolean)) := ⟨sm_b2 170 rfl rfl, sm_b1 3 rfl rfl, by decide +kernel, by decide +kernel, by decide +kernel, by decide⟩
theorem mt_90 : sm_mt 90 = ((yX8_size, cX8_size, 1, (some .int)), false, 1) := rfl
theorem mok_X8_size : sm_mok (yX8_size, cX8_size, 1, (some .int)) := ⟨sm_b2 234 rfl rfl, sm_b1 5 rfl rfl, by decide +kernel, by decide +kernel, by decide +kernel, by decide⟩
theorem mt_91 : sm_mt 91 = ((yX8_has, cX8_has, 2, (some .boolean)), false, 2) := rfl
theorem mok_X8_has : sm_mok (yX8_has, cX8_has, 2, (some .boolean)) := ⟨sm_b2 146 rfl rfl, sm_b1 5 rfl rfl, by decide +kernel, by decide +kernel, by decide +kernel, by decide⟩
theorem mt_92 : sm_mt 92 = ((yX8_isHere, cX8_isHere, 2, (some .boolean)), false, 2) := rfl
theorem mok_X8_isHere : sm_mok (yX8_isHere, cX8_isHere, 2, (some .boolean)) := ⟨sm_b2 118 rfl rfl, sm_b1 5 rfl rfl, by decide +kernel, by decide +kernel, by decide +kernel, by decide⟩
theorem mt_93 : sm_mt 93 = ((yX8_isBagHere, cX8_isBagHere, 2, (some .boolean)), false, 2) := rfl
theorem mok_X8_isBagHere : sm_mok (yX8_isBagHere, cX8_isBagHere, 2, (some .boolean)) := ⟨sm_b2 114 rfl rfl, sm_b1 5 rfl rfl, by decide +kernel, by decide +kernel, by decide +kernel, by decide⟩
theorem mt_94 : sm_mt 94 = ((yX8_add, cX8_add, 6, (some .int)), false, 5) := rfl
theorem mok_X8_add : sm_mok (yX8_add, cX8_add, 6, (some .int)) := ⟨sm_b2 122 rfl rfl, sm_b1 5 rfl rfl, by decide +kernel, by decide +kernel, by decide +kernel, by decide⟩
theorem mt_95 : sm_mt 95 = ((yX8_whereOf, cX8_whereOf, 2, (some .int)), false, 2) := rfl
theorem mok_X8_whereOf : sm_mok (yX8_whereOf, cX8_whereOf, 2, (some .int)) := ⟨sm_b4 152 rfl rfl, sm_b1 5 rfl rfl, by decide +kernel, by decide +kernel, by decide +kernel, by decide⟩
theorem mt_96 : sm_mt 96 = ((yX8_kindOf, cX8_kindOf, 2, (some .int)), false, 2) := rfl
theorem mok_X8_kindOf : sm_mok (yX8_kindOf, cX8_kindOf, 2, (some .int)) := ⟨sm_b4 61 rfl rfl, sm_b1 5 rfl rfl, by decide +kernel, by decide +kernel, by decide +kernel, by decide⟩
theorem mt_97 : sm_mt 97 = ((yX8_finderOf, cX8_finderOf, 2, (some .int)), false, 2) := rfl
theorem mok_X8_finderOf : sm_mok (yX8_finderOf, cX8_finderOf, 2, (some .int)) := ⟨sm_b4 168 rfl rfl, sm_b1 5 rfl rfl, by decide +kernel, by decide +kernel, by decide +kernel, by decide⟩
theorem mt_98 : sm_mt 98 = ((yX8_isWantedByFinder, cX8_isWantedByFinder, 2, (some .boolean)), false, 2) := rfl
theorem mok_X8_isWantedByFinder : sm_mok (yX8_isWantedByFinder, cX8_isWantedByFinder, 2, (some .boolean)) := ⟨sm_b4 164 rfl rfl, sm_b1 5 rfl rfl, by decide +kernel, by decide +kernel, by decide +kernel, by decide⟩
theorem mt_99 : sm_mt 99 = ((yX8_bagOf, cX8_bagOf, 2, (some .int)), false, 2) := rfl
theorem mok_X8_bagOf : sm_mok (yX8_bagOf, cX8_bagOf, 2, (some .int)) := ⟨sm_b4 131 rfl rfl, sm_b1 5 rfl rfl, by decide +kernel, by decide +kernel, by decide +kernel, by decide⟩
theorem mt_100 : sm_mt 100 = ((yX8_ageOf, cX8_ageOf, 2, (some .int)), false, 2) := rfl
theorem mok_X8_ageOf : sm_mok (yX8_ageOf, cX8_ageOf, 2, (some .int)) := ⟨sm_b5 52 rfl rfl, sm_b1 5 rfl rfl, by decide +kernel, by decide +kernel, by decide +kernel, by decide⟩
theorem mt_101 : sm_mt 101 = ((yX8_takerOf, cX8_takerOf, 2, (some .int)), false, 2) := rfl
theorem mok_X8_takerOf : sm_mok (yX8_takerOf, cX8_takerOf, 2, (some .int)) := ⟨sm_b5 56 rfl rfl, sm_b1 5 rfl rfl, by decide +kernel, by decide +kernel, by decide +kernel, by decide⟩
theorem mt_102 : sm_mt 102 = ((yX8_outDayOf, cX8_outDayOf, 2, (some .int)), false, 2) := rfl
theorem mok_X8_outDayOf : sm_mok (yX8_outDayOf, cX8_outDayOf, 2, (some .int)) := ⟨sm_b5 60 rfl rfl, sm_b1 5 rfl rfl, by decide +kernel, by decide +kernel, by decide +kernel, by decide⟩
theorem mt_103 : sm_mt 103 = ((yX8_whyOf, cX8_whyOf, 2, (some .int)), false, 2) := rfl
theorem mok_X8_whyOf : sm_mok (yX8_whyOf, cX8_whyOf, 2, (some .int)) := ⟨sm_b5 64 rfl rfl, sm_b1 5 rfl rfl, by decide +kernel, by decide +kernel, by decide +kernel, by decide⟩
theorem mt_104 : sm_mt 104 = ((yX8_growOlder, cX8_growOlder, 2, (some .int)), false, 2) := rfl
theorem mok_X8_growOlder : sm_mok (yX8_growOlder, cX8_growOlder, 2, (some .int)) := ⟨sm_b4 160 rfl rfl, sm_b1 5 rfl rfl, by decide +kernel, by decide +kernel, by decide +kernel, by decide⟩
theorem mt_105 : sm_mt 105 = ((yX8_moveTo, cX8_moveTo, 3, none), false, 3) := rfl
theorem mok_X8_moveTo : sm_mok (yX8_moveTo, cX8_moveTo, 3, none) := ⟨sm_b4 111 rfl rfl, sm_b1 5 rfl rfl, by decide +kernel, by decide +kernel, by decide +kernel, by decide⟩
theorem mt_106 : sm_mt 106 = ((yX8_holds, cX8_holds, 5, (some .boolean)), false, 3) := rfl
theorem mok_X8_holds : sm_mok (yX8_holds, cX8_holds, 5, (some .boolean)) := ⟨sm_b4 127 rfl rfl, sm_b1 5 rfl rfl, by decide +kernel, by decide +kernel, by decide +kernel, by decide⟩
theorem mt_107 : sm_mt 107 = ((yX8_firstInside, cX8_firstInside, 3, (some .int)), false, 2) := rfl
theorem mok_X8_firstInside : sm_mok (yX8_firstInside, cX8_firstInside, 3, (some .int)) := ⟨sm_b4 103 rfl rfl, sm_b1 5 rfl rfl, by decide +kernel, by decide +kernel, by decide +kernel, by decide⟩
theorem mt_108 : sm_mt 108 = ((yX8_countInside, cX8_countInside, 4, (some .int)), false, 2) := rfl
theorem mok_X8_countInside : sm_mok (yX8_countInside, cX8_countInside, 4, (some .int)) := ⟨sm_b5 68 rfl rfl, sm_b1 5 rfl rfl, by decide +kernel, by decide +kernel, by decide +kernel, by decide⟩
theorem mt_109 : sm_mt 109 = ((yX8_leave, cX8_leave, 5, none), false, 5) := rfl
theorem mok_X8_leave : sm_mok (yX8_leave, cX8_leave, 5, none) := ⟨sm_b4 99 rfl rfl, sm_b1 5 rfl rfl, by decide +kernel, by decide +kernel, by decide +kernel, by decide⟩
theorem mt_110 : sm_mt 110 = ((yX8_goneCount, cX8_goneCount, 1, (some .int)), false, 1) := rfl
theorem mok_X8_goneCount : sm_mok (yX8_goneCount, cX8_goneCount, 1, (some .int)) := ⟨sm_b4 143 rfl rfl, sm_b1 5 rfl rfl, by decide +kernel, by decide +kernel, by decide +kernel, by decide⟩
theorem mt_111 : sm_mt 111 = ((yX8_goneAt, cX8_goneAt, 2, (some .int)), false, 2) := rfl
theorem mok_X8_goneAt : sm_mok (yX8_goneAt, cX8_goneAt, 2, (some .int)) := ⟨sm_b4 203 rfl rfl, sm_b1 5 rfl rfl, by decide +kernel, by decide +kernel, by decide +kernel, by decide⟩
theorem mt_112 : sm_mt 112 = ((yX8_countPlaced, cX8_countPlaced, 4, (some .int)), false, 2) := rfl
theorem mok_X8_countPlaced : sm_mok (yX8_countPlaced, cX8_countPlaced, 4, (some .int)) := ⟨sm_b4 190 rfl rfl, sm_b1 5 rfl rfl, by decide +kernel, by decide +kernel, by decide +kernel, by decide⟩
theorem mt_113 : sm_mt 113 = ((yX8_countWhy, cX8_countWhy, 4, (some .int)), false, 2) := rfl
theorem mok_X8_countWhy : sm_mok (yX8_countWhy, cX8_countWhy, 4, (some .int)) := ⟨sm_b4 195 rfl rfl, sm_b1 5 rfl rfl, by decide +kernel, by decide +kernel, by decide +kernel, by decide⟩
theorem mt_115 : sm_mt 115 = ((yX9_question, cX9_question, 4, (some .int)), false, 4) := rfl
theorem mok_X9_question : sm_mok (yX9_question, cX9_question, 4, (some .int)) := ⟨sm_b2 67 rfl rfl, sm_b1 1 rfl rfl, by decide +kernel, by decide +kernel, by decide +kernel, by decide⟩
theorem mt_116 : sm_mt 116 = ((yX9_may, cX9_may, 5, (some .boolean)), false, 5) := rfl
theorem mok_X9_may : sm_mok (yX9_may, cX9_may, 5, (some .boolean)) := ⟨sm_b2 78 rfl rfl, sm_b1 1 rfl rfl, by decide +kernel, by decide +kernel, by decide +kernel, by decide⟩
theorem mt_117 : sm_mt 117 = ((yX9_mays, cX9_mays, 4, (some .int)), false, 4) := rfl
theorem mok_X9_mays : sm_mok (yX9_mays, cX9_mays, 4, (some .int)) := ⟨sm_b2 95 rfl rfl, sm_b1 1 rfl rfl, by decide +kernel, by decide +kernel, by decide +kernel, by decide⟩
theorem mt_118 : sm_mt 118 = ((yX9_thing, cX9_thing, 5, (some .int)), false, 5) := rfl
theorem mok_X9_thing : sm_mok (yX9_thing, cX9_thing, 5, (some .int)) := ⟨sm_b2 110 rfl rfl, sm_b1 1 rfl rfl, by decide +kernel, by decide +kernel, by decide +kernel, by decide⟩
theorem mt_119 : sm_mt 119 = ((yX9_report, cX9_report, 2, (some .int)), false, 2) := rfl
theorem mok_X9_report : sm_mok (yX9_report, cX9_report, 2, (some .int)) := ⟨sm_b2 126 rfl rfl, sm_b1 1 rfl rfl, by decide +kernel, by decide +kernel, by decide +kernel, by decide⟩
theorem mt_120 : sm_mt 120 = ((yX9_mark, cX9_mark, 5, (some .boolean)), false, 5) := rfl
theorem mok_X9_mark : sm_mok (yX9_mark, cX9_mark, 5, (some .boolean)) := ⟨sm_b2 134 rfl rfl, sm_b1 1 rfl rfl, by decide +kernel, by decide +kernel, by decide +kernel, by decide⟩
theorem mt_121 : sm_mt 121 = ((yX9_tear, cX9_tear, 4, (some .boolean)), false, 4) := rfl
theorem mok_X9_tear : sm_mok (yX9_tear, cX9_tear, 4, (some .boolean)) := ⟨sm_b2 166 rfl rfl, sm_b1 1 rfl rfl, by decide +kernel, by decide +kernel, by decide +kernel, by decide⟩
theorem mt_122 : sm_mt 122 = ((yX9_known, cX9_known, 4, (some .int)), false, 4) := rfl
theorem mok_X9_known : sm_mok (yX9_known, cX9_known, 4, (some .int)) := ⟨sm_b2 174 rfl rfl, sm_b1 1 rfl rfl, by decide +kernel, by decide +kernel, by decide +kernel, by decide⟩
theorem mt_123 : sm_mt 123 = ((yX9_length, cX9_length, 3, (some .int)), false, 3) := rfl
theorem mok_X9_length : sm_mok (yX9_length, cX9_length, 3, (some .int)) := ⟨sm_b2 182 rfl rfl, sm_b1 1 rfl rfl, by decide +kernel, by decide +kernel, by decide +kernel, by decide⟩
theorem mt_124 : sm_mt 124 = ((yX9_isThere, cX9_isThere, 3, (some .boolean)), false, 3) := rfl
theorem mok_X9_isThere : sm_mok (yX9_isThere, cX9_isThere, 3, (some .boolean)) := ⟨sm_b2 138 rfl rfl, sm_b1 1 rfl rfl, by decide +kernel, by decide +kernel, by decide +kernel, by decide⟩
theorem mt_125 : sm_mt 125 = ((yX9_rowsOf, cX9_rowsOf, 2, (some (.object "FoundOffice$Rows"))), false, 2) := rfl
theorem mok_X9_rowsOf : sm_mok (yX9_rowsOf, cX9_rowsOf, 2, (some (.object "FoundOffice$Rows"))) := ⟨sm_b2 154 rfl rfl, sm_b1 1 rfl rfl, by decide +kernel, by decide +kernel, by decide +kernel, by decide⟩
theorem mt_126 : sm_mt 126 = ((yX9_fits, cX9_fits, 3, (some .int)), false, 3) := rfl
theorem mok_X9_fits : sm_mok (yX9_fits, cX9_fits, 3, (some .int)) := ⟨sm_b2 190 rfl rfl, sm_b1 1 rfl rfl, by decide +kernel, by decide +kernel, by decide +kernel, by decide⟩
theorem mt_127 : sm_mt 127 = ((yX9_tells, cX9_tells, 3, (some .int)), false, 3) := rfl
theorem mok_X9_tells : sm_mok (yX9_tells, cX9_tells, 3, (some .int)) := ⟨sm_b2 212 rfl rfl, sm_b1 1 rfl rfl, by decide +kernel, by decide +kernel, by decide +kernel, by decide⟩
theorem mt_128 : sm_mt 128 = ((yX9_strength, cX9_strength, 3, (some .int)), false, 3) := rfl
theorem mok_X9_strength : sm_mok (yX9_strength, cX9_strength, 3, (some .int)) := ⟨sm_b2 217 rfl rfl, sm_b1 1 rfl rfl, by decide +kernel, by decide +kernel, by decide +kernel, by decide⟩
theorem mt_129 : sm_mt 129 = ((yX9_arePair, cX9_arePair, 3, (some .boolean)), false, 3) := rfl
theorem mok_X9_arePair : sm_mok (yX9_arePair, cX9_arePair, 3, (some .boolean)) := ⟨sm_b2 194 rfl rfl, sm_b1 1 rfl rfl, by decide +kernel, by decide +kernel, by decide +kernel, by decide⟩
theorem mt_130 : sm_mt 130 = ((yX9_fitting, cX9_fitting, 2, (some .int)), false, 2) := rfl
theorem mok_X9_fitting : sm_mok (yX9_fitting, cX9_fitting, 2, (some .int)) := ⟨sm_b3 8 rfl rfl, sm_b1 1 rfl rfl, by decide +kernel, by decide +kernel, by decide +kernel, by decide⟩
theorem mt_131 : sm_mt 131 = ((yX9_fit, cX9_fit, 7, (some .int)), false, 3) := rfl
theorem mok_X9_fit : sm_mok (yX9_fit, cX9_fit, 7, (some .int)) := ⟨sm_b3 22 rfl rfl, sm_b1 1 rfl rfl, by decide +kernel, by decide +kernel, by decide +kernel, by decide⟩
theorem mt_132 : sm_mt 132 = ((yX9_isIn, cX9_isIn, 3, (some .boolean)), true, 2) := rfl
theorem mok_X9_isIn : sm_mok (yX9_isIn, cX9_isIn, 3, (some .boolean)) := ⟨sm_b3 25 rfl rfl, sm_b1 1 rfl rfl, by decide +kernel, by decide +kernel, by decide +kernel, by decide⟩
theorem mt_133 : sm_mt 133 = ((yX9_best, cX9_best, 3, (some .int)), false, 2) := rfl
theorem mok_X9_best : sm_mok (yX9_best, cX9_best, 3, (some .int)) := ⟨sm_b3 29 rfl rfl, sm_b1 1 rfl rfl, by decide +kernel, by decide +kernel, by decide +kernel, by decide⟩
theorem mt_134 : sm_mt 134 = ((yX9_sum, cX9_sum, 3, (some .int)), false, 2) := rfl
theorem mok_X9_sum : sm_mok (yX9_sum, cX9_sum, 3, (some .int)) := ⟨sm_b3 122 rfl rfl, sm_b1 1 rfl rfl, by decide +kernel, by decide +kernel, by decide +kernel, by decide⟩
theorem mt_135 : sm_mt 135 = ((yX9_also, cX9_also, 4, (some .int)), false, 2) := rfl
theorem mok_X9_also : sm_mok (yX9_also, cX9_also, 4, (some .int)) := ⟨sm_b3 135 rfl rfl, sm_b1 1 rfl rfl, by decide +kernel, by decide +kernel, by decide +kernel, by decide⟩
theorem mt_136 : sm_mt 136 = ((yX9_matchGroup, cX9_matchGroup, 2, (some .int)), false, 2) := rfl
theorem mok_X9_matchGroup : sm_mok (yX9_matchGroup, cX9_matchGroup, 2, (some .int)) := ⟨sm_b3 33 rfl rfl, sm_b1 1 rfl rfl, by decide +kernel, by decide +kernel, by decide +kernel, by decide⟩
theorem mt_137 : sm_mt 137 = ((yX9_group, cX9_group, 3, (some .int)), false, 3) := rfl
theorem mok_X9_group : sm_mok (yX9_group, cX9_group, 3, (some .int)) := ⟨sm_b3 146 rfl rfl, sm_b1 1 rfl rfl, by decide +kernel, by decide +kernel, by decide +kernel, by decide⟩
theorem mt_138 : sm_mt 138 = ((yX9_like, cX9_like, 3, (some .int)), false, 3) := rfl
theorem mok_X9_like : sm_mok (yX9_like, cX9_like, 3, (some .int)) := ⟨sm_b3 158 rfl rfl, sm_b1 1 rfl rfl, by decide +kernel, by decide +kernel, by decide +kernel, by decide⟩
theorem mt_139 : sm_mt 139 = ((yX9_parts, cX9_parts, 3, (some .int)), false, 3) := rfl
theorem mok_X9_parts : sm_mok (yX9_parts, cX9_parts, 3, (some .int)) := ⟨sm_b3 171 rfl rfl, sm_b1 1 rfl rfl, by decide +kernel, by decide +kernel, by decide +kernel, by decide⟩
theorem mt_140 : sm_mt 140 = ((yX9_ask, cX9_ask, 2, (some .int)), false, 2) := rfl
theorem mok_X9_ask : sm_mok (yX9_ask, cX9_ask, 2, (some .int)) := ⟨sm_b3 184 rfl rfl, sm_b1 1 rfl rfl, by decide +kernel, by decide +kernel, by decide +kernel, by decide⟩
theorem mt_141 : sm_mt 141 = ((yX9_fewest, cX9_fewest, 4, (some .int)), false, 2) := rfl
theorem mok_X9_fewest : sm_mok (yX9_fewest, cX9_fewest, 4, (some .int)) := ⟨sm_b3 193 rfl rfl, sm_b1 1 rfl rfl, by decide +kernel, by decide +kernel, by decide +kernel, by decide⟩
theorem mt_142 : sm_mt 142 = ((yX9_claim, cX9_claim, 3, (some .int)), false, 3) := rfl
theorem mok_X9_claim : sm_mok (yX9_claim, cX9_claim, 3, (some .int)) := ⟨sm_b3 238 rfl rfl, sm_b1 1 rfl rfl, by decide +kernel, by decide +kernel, by decide +kernel, by decide⟩
theorem mt_143 : sm_mt 143 = ((yX9_prove, cX9_prove, 5, (some .int)), false, 4) := rfl
theorem mok_X9_prove : sm_mok (yX9_prove, cX9_prove, 5, (some .int)) := ⟨sm_b4 24 rfl rfl, sm_b1 1 rfl rfl, by decide +kernel, by decide +kernel, by decide +kernel, by decide⟩
theorem mt_144 : sm_mt 144 = ((yX9_give, cX9_give, 4, (some .int)), false, 2) := rfl
theorem mok_X9_give : sm_mok (yX9_give, cX9_give, 4, (some .int)) := ⟨sm_b4 49 rfl rfl, sm_b1 1 rfl rfl, by decide +kernel, by decide +kernel, by decide +kernel, by decide⟩
theorem mt_145 : sm_mt 145 = ((yX9_withdraw, cX9_withdraw, 2, (some .boolean)), false, 2) := rfl
theorem mok_X9_withdraw : sm_mok (yX9_withdraw, cX9_withdraw, 2, (some .boolean)) := ⟨sm_b4 115 rfl rfl, sm_b1 1 rfl rfl, by decide +kernel, by decide +kernel, by decide +kernel, by decide⟩
theorem mt_146 : sm_mt 146 = ((yX9_close, cX9_close, 2, (some .boolean)), false, 2) := rfl
theorem mok_X9_close : sm_mok (yX9_close, cX9_close, 2, (some .boolean)) := ⟨sm_b4 119 rfl rfl, sm_b1 1 rfl rfl, by decide +kernel, by decide +kernel, by decide +kernel, by decide⟩
theorem mt_147 : sm_mt 147 = ((yX9_shut, cX9_shut, 2, none), false, 2) := rfl
theorem mok_X9_shut : sm_mok (yX9_shut, cX9_shut, 2, none) := ⟨sm_b4 70 rfl rfl, sm_b1 1 rfl rfl, by decide +kernel, by decide +kernel, by decide +kernel, by decide⟩
theorem mt_149 : sm_mt 149 = ((yX9_into, cX9_into, 3, (some .boolean)), false, 3) := rfl
theorem mok_X9_into : sm_mok (yX9_into, cX9_into, 3, (some .boolean)) := ⟨sm_b4 123 rfl rfl, sm_b1 1 rfl rfl, by decide +kernel, by decide +kernel, by decide +kernel, by decide⟩
theorem mt_151 : sm_mt 151 = ((yX9_days, cX9_days, 3, (some .boolean)), false, 3) := rfl
theorem mok_X9_days : sm_mok (yX9_days, cX9_days, 3, (some .boolean)) := ⟨sm_b4 135 rfl rfl, sm_b1 1 rfl rfl, by decide +kernel, by decide +kernel, by decide +kernel, by decide⟩
theorem mt_152 : sm_mt 152 = ((yX9_day, cX9_day, 4, (some .int)), false, 2) := rfl
theorem mok_X9_day : sm_mok (yX9_day, cX9_day, 4, (some .int)) := ⟨sm_b4 139 rfl rfl, sm_b1 1 rfl rfl, by decide +kernel, by decide +kernel, by decide +kernel, by decide⟩
theorem mt_153 : sm_mt 153 = ((yX9_passDay, cX9_passDay, 2, none), false, 1) := rfl
theorem mok_X9_passDay : sm_mok (yX9_passDay, cX9_passDay, 2, none) := ⟨sm_b4 147 rfl rfl, sm_b1 1 rfl rfl, by decide +kernel, by decide +kernel, by decide +kernel, by decide⟩
theorem mt_154 : sm_mt 154 = ((yX9_ripen, cX9_ripen, 4, none), false, 2) := rfl
theorem mok_X9_ripen : sm_mok (yX9_ripen, cX9_ripen, 4, none) := ⟨sm_b4 156 rfl rfl, sm_b1 1 rfl rfl, by decide +kernel, by decide +kernel, by decide +kernel, by decide⟩
theorem mt_155 : sm_mt 155 = ((yX9_sendWithContents, cX9_sendWithContents, 8, none), false, 4) := rfl
theorem mok_X9_sendWithContents : sm_mok (yX9_sendWithContents, cX9_sendWithContents, 8, none) := ⟨sm_b4 87 rfl rfl, sm_b1 1 rfl rfl, by decide +kernel, by decide +kernel, by decide +kernel, by decide⟩
theorem mt_156 : sm_mt 156 = ((yX9_sendOut, cX9_sendOut, 4, none), false, 4) := rfl
theorem mok_X9_sendOut : sm_mok (yX9_sendOut, cX9_sendOut, 4, none) := ⟨sm_b4 91 rfl rfl, sm_b1 1 rfl rfl, by decide +kernel, by decide +kernel, by decide +kernel, by decide⟩
theorem mt_157 : sm_mt 157 = ((yX9_count, cX9_count, 2, (some .int)), false, 2) := rfl
theorem mok_X9_count : sm_mok (yX9_count, cX9_count, 2, (some .int)) := ⟨sm_b4 172 rfl rfl, sm_b1 1 rfl rfl, by decide +kernel, by decide +kernel, by decide +kernel, by decide⟩
theorem mt_158 : sm_mt 158 = ((yX9_gone, cX9_gone, 2, (some .int)), false, 2) := rfl
theorem mok_X9_gone : sm_mok (yX9_gone, cX9_gone, 2, (some .int)) := ⟨sm_b4 199 rfl rfl, sm_b1 1 rfl rfl, by decide +kernel, by decide +kernel, by decide +kernel, by decide⟩
theorem mt_160 : sm_mt 160 = ((yX10_thrown, cX10_thrown, 1, (some .int)), false, 1) := rfl
theorem mok_X10_thrown : sm_mok (yX10_thrown, cX10_thrown, 1, (some .int)) := ⟨sm_b5 206 rfl rfl, sm_b1 11 rfl rfl, by decide +kernel, by decide +kernel, by decide +kernel, by decide⟩
theorem mt_161 : sm_mt 161 = ((yX10_in, cX10_in, 3, (some .boolean)), true, 3) := rfl
theorem mok_X10_in : sm_mok (yX10_in, cX10_in, 3, (some .boolean)) := ⟨sm_b5 213 rfl rfl, sm_b1 11 rfl rfl, by decide +kernel, by decide +kernel, by decide +kernel, by decide⟩
theorem mt_162 : sm_mt 162 = ((yX10_question, cX10_question, 5, (some .int)), false, 4) := rfl
theorem mok_X10_question : sm_mok (yX10_question, cX10_question, 5, (some .int)) := ⟨sm_b5 210 rfl rfl, sm_b1 11 rfl rfl, by decide +kernel, by decide +kernel, by decide +kernel, by decide⟩
theorem mt_163 : sm_mt 163 = ((yX10_isQuestion, cX10_isQuestion, 2, (some .boolean)), false, 2) := rfl
theorem mok_X10_isQuestion : sm_mok (yX10_isQuestion, cX10_isQuestion, 2, (some .boolean)) := ⟨sm_b5 221 rfl rfl, sm_b1 11 rfl rfl, by decide +kernel, by decide +kernel, by decide +kernel, by decide⟩
theorem mt_164 : sm_mt 164 = ((yX10_isAnswer, cX10_isAnswer, 3, (some .boolean)), false, 3) := rfl
theorem mok_X10_isAnswer : sm_mok (yX10_isAnswer, cX10_isAnswer, 3, (some .boolean)) := ⟨sm_b5 225 rfl rfl, sm_b1 11 rfl rfl, by decide +kernel, by decide +kernel, by decide +kernel, by decide⟩
theorem mt_165 : sm_mt 165 = ((yX10_mayBe, cX10_mayBe, 6, (some .boolean)), false, 4) := rfl
theorem mok_X10_mayBe : sm_mok (yX10_mayBe, cX10_mayBe, 6, (some .boolean)) := ⟨sm_b5 233 rfl rfl, sm_b1 11 rfl rfl, by decide +kernel, by decide +kernel, by decide +kernel, by decide⟩
theorem mt_166 : sm_mt 166 = ((yX10_may, cX10_may, 5, (some .boolean)), false, 5) := rfl
theorem mok_X10_may : sm_mok (yX10_may, cX10_may, 5, (some .boolean)) := ⟨sm_b5 217 rfl rfl, sm_b1 11 rfl rfl, by decide +kernel, by decide +kernel, by decide +kernel, by decide⟩
theorem mt_167 : sm_mt 167 = ((yX10_mays, cX10_mays, 4, (some .int)), false, 4) := rfl
theorem mok_X10_mays : sm_mok (yX10_mays, cX10_mays, 4, (some .int)) := ⟨sm_b5 229 rfl rfl, sm_b1 11 rfl rfl, by decide +kernel, by decide +kernel, by decide +kernel, by decide⟩
theorem mt_168 : sm_mt 168 = ((yX10_isThing, cX10_isThing, 2, (some .boolean)), false, 2) := rfl
theorem mok_X10_isThing : sm_mok (yX10_isThing, cX10_isThing, 2, (some .boolean)) := ⟨sm_b6 5 rfl rfl, sm_b1 11 rfl rfl, by decide +kernel, by decide +kernel, by decide +kernel, by decide⟩
theorem mt_169 : sm_mt 169 = ((yX10_isReport, cX10_isReport, 2, (some .boolean)), false, 2) := rfl
theorem mok_X10_isReport : sm_mok (yX10_isReport, cX10_isReport, 2, (some .boolean)) := ⟨sm_b6 25 rfl rfl, sm_b1 11 rfl rfl, by decide +kernel, by decide +kernel, by decide +kernel, by decide⟩
theorem mt_170 : sm_mt 170 = ((yX10_isOut, cX10_isOut, 2, (some .boolean)), false, 2) := rfl
theorem mok_X10_isOut : sm_mok (yX10_isOut, cX10_isOut, 2, (some .boolean)) := ⟨sm_b6 9 rfl rfl, sm_b1 11 rfl rfl, by decide +kernel, by decide +kernel, by decide +kernel, by decide⟩
theorem mt_171 : sm_mt 171 = ((yX10_isBag, cX10_isBag, 2, (some .boolean)), false, 2) := rfl
theorem mok_X10_isBag : sm_mok (yX10_isBag, cX10_isBag, 2, (some .boolean)) := ⟨sm_b6 1 rfl rfl, sm_b1 11 rfl rfl, by decide +kernel, by decide +kernel, by decide +kernel, by decide⟩
theorem mt_172 : sm_mt 172 = ((yX10_thing, cX10_thing, 5, (some .int)), false, 5) := rfl
theorem mok_X10_thing : sm_mok (yX10_thing, cX10_thing, 5, (some .int)) := ⟨sm_b5 237 rfl rfl, sm_b1 11 rfl rfl, by decide +kernel, by decide +kernel, by decide +kernel, by decide⟩
theorem mt_173 : sm_mt 173 = ((yX10_report, cX10_report, 2, (some .int)), false, 2) := rfl
theorem mok_X10_report : sm_mok (yX10_report, cX10_report, 2, (some .int)) := ⟨sm_b6 13 rfl rfl, sm_b1 11 rfl rfl, by decide +kernel, by decide +kernel, by decide +kernel, by decide⟩
theorem mt_174 : sm_mt 174 = ((yX10_rowOf, cX10_rowOf, 3, (some .int)), false, 3) := rfl
theorem mok_X10_rowOf : sm_mok (yX10_rowOf, cX10_rowOf, 3, (some .int)) := ⟨sm_b6 21 rfl rfl, sm_b1 11 rfl rfl, by decide +kernel, by decide +kernel, by decide +kernel, by decide⟩
theorem mt_175 : sm_mt 175 = ((yX10_mark, cX10_mark, 6, (some .boolean)), false, 5) := rfl
theorem mok_X10_mark : sm_mok (yX10_mark, cX10_mark, 6, (some .boolean)) := ⟨sm_b6 17 rfl rfl, sm_b1 11 rfl rfl, by decide +kernel, by decide +kernel, by decide +kernel, by decide⟩
theorem mt_176 : sm_mt 176 = ((yX10_tear, cX10_tear, 6, (some .boolean)), false, 4) := rfl
theorem mok_X10_tear : sm_mok (yX10_tear, cX10_tear, 6, (some .boolean)) := ⟨sm_b6 29 rfl rfl, sm_b1 11 rfl rfl, by decide +kernel, by decide +kernel, by decide +kernel, by decide⟩
theorem mt_177 : sm_mt 177 = ((yX10_knows, cX10_knows, 3, (some .int)), false, 3) := rfl
theorem mok_X10_knows : sm_mok (yX10_knows, cX10_knows, 3, (some .int)) := ⟨sm_b6 37 rfl rfl, sm_b1 11 rfl rfl, by decide +kernel, by decide +kernel, by decide +kernel, by decide⟩
theorem mt_178 : sm_mt 178 = ((yX10_known, cX10_known, 5, (some .int)), false, 4) := rfl
theorem mok_X10_known : sm_mok (yX10_known, cX10_known, 5, (some .int)) := ⟨sm_b6 33 rfl rfl, sm_b1 11 rfl rfl, by decide +kernel, by decide +kernel, by decide +kernel, by decide⟩
theorem mt_179 : sm_mt 179 = ((yX10_length, cX10_length, 4, (some .int)), false, 3) := rfl
theorem mok_X10_length : sm_mok (yX10_length, cX10_length, 4, (some .int)) := ⟨sm_b6 41 rfl rfl, sm_b1 11 rfl rfl, by decide +kernel, by decide +kernel, by decide +kernel, by decide⟩
theorem mt_180 : sm_mt 180 = ((yX10_apart, cX10_apart, 6, (some .int)), false, 3) := rfl
theorem mok_X10_apart : sm_mok (yX10_apart, cX10_apart, 6, (some .int)) := ⟨sm_b6 53 rfl rfl, sm_b1 11 rfl rfl, by decide +kernel, by decide +kernel, by decide +kernel, by decide⟩
theorem mt_181 : sm_mt 181 = ((yX10_isFit, cX10_isFit, 3, (some .boolean)), false, 3) := rfl
theorem mok_X10_isFit : sm_mok (yX10_isFit, cX10_isFit, 3, (some .boolean)) := ⟨sm_b6 49 rfl rfl, sm_b1 11 rfl rfl, by decide +kernel, by decide +kernel, by decide +kernel, by decide⟩
theorem mt_182 : sm_mt 182 = ((yX10_isFitIn, cX10_isFitIn, 3, (some .boolean)), false, 3) := rfl
theorem mok_X10_isFitIn : sm_mok (yX10_isFitIn, cX10_isFitIn, 3, (some .boolean)) := ⟨sm_b6 77 rfl rfl, sm_b1 11 rfl rfl, by decide +kernel, by decide +kernel, by decide +kernel, by decide⟩
theorem mt_183 : sm_mt 183 = ((yX10_fits, cX10_fits, 3, (some .int)), false, 3) := rfl
theorem mok_X10_fits : sm_mok (yX10_fits, cX10_fits, 3, (some .int)) := ⟨sm_b6 45 rfl rfl, sm_b1 11 rfl rfl, by decide +kernel, by decide +kernel, by decide +kernel, by decide⟩
theorem mt_184 : sm_mt 184 = ((yX10_tells, cX10_tells, 3, (some .int)), false, 3) := rfl
theorem mok_X10_tells : sm_mok (yX10_tells, cX10_tells, 3, (some .int)) := ⟨sm_b6 57 rfl rfl, sm_b1 11 rfl rfl, by decide +kernel, by decide +kernel, by decide +kernel, by decide⟩
theorem mt_185 : sm_mt 185 = ((yX10_strengthOf, cX10_strengthOf, 7, (some .int)), false, 3) := rfl
theorem mok_X10_strengthOf : sm_mok (yX10_strengthOf, cX10_strengthOf, 7, (some .int)) := ⟨sm_b6 65 rfl rfl, sm_b1 11 rfl rfl, by decide +kernel, by decide +kernel, by decide +kernel, by decide⟩
theorem mt_186 : sm_mt 186 = ((yX10_strength, cX10_strength, 3, (some .int)), false, 3) := rfl
theorem mok_X10_strength : sm_mok (yX10_strength, cX10_strength, 3, (some .int)) := ⟨sm_b6 61 rfl rfl, sm_b1 11 rfl rfl, by decide +kernel, by decide +kernel, by decide +kernel, by decide⟩
theorem mt_187 : sm_mt 187 = ((yX10_fitting0, cX10_fitting0, 4, (some .int)), false, 2) := rfl
theorem mok_X10_fitting0 : sm_mok (yX10_fitting0, cX10_fitting0, 4, (some .int)) := ⟨sm_b6 73 rfl rfl, sm_b1 11 rfl rfl, by decide +kernel, by decide +kernel, by decide +kernel, by decide⟩
theorem mt_188 : sm_mt 188 = ((yX10_fitting, cX10_fitting, 2, (some .int)), false, 2) := rfl
theorem mok_X10_fitting : sm_mok (yX10_fitting, cX10_fitting, 2, (some .int)) := ⟨sm_b6 69 rfl rfl, sm_b1 11 rfl rfl, by decide +kernel, by decide +kernel, by decide +kernel, by decide⟩
theorem mt_189 : sm_mt 189 = ((yX10_fit, cX10_fit, 5, (some .int)), false, 3) := rfl
theorem mok_X10_fit : sm_mok (yX10_fit, cX10_fit, 5, (some .int)) := ⟨sm_b6 81 rfl rfl, sm_b1 11 rfl rfl, by decide +kernel, by decide +kernel, by decide +kernel, by decide⟩
theorem mt_190 : sm_mt 190 = ((yX10_findGroup, cX10_findGroup, 5, none), false, 2) := rfl
theorem mok_X10_findGroup : sm_mok (yX10_findGroup, cX10_findGroup, 5, none) := ⟨sm_b6 97 rfl rfl, sm_b1 11 rfl rfl, by decide +kernel, by decide +kernel, by decide +kernel, by decide⟩
theorem mt_191 : sm_mt 191 = ((yX10_isTooLarge, cX10_isTooLarge, 1, (some .boolean)), false, 1) := rfl
theorem mok_X10_isTooLarge : sm_mok (yX10_isTooLarge, cX10_isTooLarge, 1, (some .boolean)) := ⟨sm_b6 101 rfl rfl, sm_b1 11 rfl rfl, by decide +kernel, by decide +kernel, by decide +kernel, by decide⟩
theorem mt_192 : sm_mt 192 = ((yX10_worth, cX10_worth, 8, (some .long)), false, 3) := rfl
theorem mok_X10_worth : sm_mok (yX10_worth, cX10_worth, 8, (some .long)) := ⟨sm_b6 109 rfl rfl, sm_b1 11 rfl rfl, by decide +kernel, by decide +kernel, by decide +kernel, by decide⟩
theorem mt_193 : sm_mt 193 = ((yX10_match, cX10_match, 9, none), false, 1) := rfl
theorem mok_X10_match : sm_mok (yX10_match, cX10_match, 9, none) := ⟨sm_b6 105 rfl rfl, sm_b1 11 rfl rfl, by decide +kernel, by decide +kernel, by decide +kernel, by decide⟩
theorem mt_194 : sm_mt 194 = ((yX10_isOpen, cX10_isOpen, 2, (some .boolean)), false, 2) := rfl
theorem mok_X10_isOpen : sm_mok (yX10_isOpen, cX10_isOpen, 2, (some .boolean)) := ⟨sm_b6 89 rfl rfl, sm_b1 11 rfl rfl, by decide +kernel, by decide +kernel, by decide +kernel, by decide⟩
theorem mt_195 : sm_mt 195 = ((yX10_given, cX10_given, 3, (some .int)), false, 2) := rfl
theorem mok_X10_given : sm_mok (yX10_given, cX10_given, 3, (some .int)) := ⟨sm_b6 93 rfl rfl, sm_b1 11 rfl rfl, by decide +kernel, by decide +kernel, by decide +kernel, by decide⟩
theorem mt_196 : sm_mt 196 = ((yX10_best, cX10_best, 2, (some .int)), false, 2) := rfl
theorem mok_X10_best : sm_mok (yX10_best, cX10_best, 2, (some .int)) := ⟨sm_b6 85 rfl rfl, sm_b1 11 rfl rfl, by decide +kernel, by decide +kernel, by decide +kernel, by decide⟩
theorem mt_197 : sm_mt 197 = ((yX10_sum, cX10_sum, 2, (some .int)), false, 2) := rfl
theorem mok_X10_sum : sm_mok (yX10_sum, cX10_sum, 2, (some .int)) := ⟨sm_b6 117 rfl rfl, sm_b1 11 rfl rfl, by decide +kernel, by decide +kernel, by decide +kernel, by decide⟩
theorem mt_198 : sm_mt 198 = ((yX10_also, cX10_also, 6, (some .int)), false, 2) := rfl
theorem mok_X10_also : sm_mok (yX10_also, cX10_also, 6, (some .int)) := ⟨sm_b6 121 rfl rfl, sm_b1 11 rfl rfl, by decide +kernel, by decide +kernel, by decide +kernel, by decide⟩
theorem mt_199 : sm_mt 199 = ((yX10_group, cX10_group, 3, (some .int)), false, 3) := rfl
theorem mok_X10_group : sm_mok (yX10_group, cX10_group, 3, (some .int)) := ⟨sm_b6 125 rfl rfl, sm_b1 11 rfl rfl, by decide +kernel, by decide +kernel, by decide +kernel, by decide⟩
theorem mt_200 : sm_mt 200 = ((yX10_like, cX10_like, 4, (some .int)), false, 3) := rfl
theorem mok_X10_like : sm_mok (yX10_like, cX10_like, 4, (some .int)) := ⟨sm_b6 129 rfl rfl, sm_b1 11 rfl rfl, by decide +kernel, by decide +kernel, by decide +kernel, by decide⟩
theorem mt_201 : sm_mt 201 = ((yX10_findFitted, cX10_findFitted, 3, none), false, 2) := rfl
theorem mok_X10_findFitted : sm_mok (yX10_findFitted, cX10_findFitted, 3, none) := ⟨sm_b6 137 rfl rfl, sm_b1 11 rfl rfl, by decide +kernel, by decide +kernel, by decide +kernel, by decide⟩
theorem mt_202 : sm_mt 202 = ((yX10_classes, cX10_classes, 6, (some .int)), false, 2) := rfl
theorem mok_X10_classes : sm_mok (yX10_classes, cX10_classes, 6, (some .int)) := ⟨sm_b6 141 rfl rfl, sm_b1 11 rfl rfl, by decide +kernel, by decide +kernel, by decide +kernel, by decide⟩
theorem mt_203 : sm_mt 203 = ((yX10_parts, cX10_parts, 3, (some .int)), false, 3) := rfl
theorem mok_X10_parts : sm_mok (yX10_parts, cX10_parts, 3, (some .int)) := ⟨sm_b6 133 rfl rfl, sm_b1 11 rfl rfl, by decide +kernel, by decide +kernel, by decide +kernel, by decide⟩
theorem mt_204 : sm_mt 204 = ((yX10_ask, cX10_ask, 6, (some .int)), false, 2) := rfl
theorem mok_X10_ask : sm_mok (yX10_ask, cX10_ask, 6, (some .int)) := ⟨sm_b6 145 rfl rfl, sm_b1 11 rfl rfl, by decide +kernel, by decide +kernel, by decide +kernel, by decide⟩
theorem mt_205 : sm_mt 205 = ((yX10_classOf, cX10_classOf, 6, (some .int)), false, 4) := rfl
theorem mok_X10_classOf : sm_mok (yX10_classOf, cX10_classOf, 6, (some .int)) := ⟨sm_b6 157 rfl rfl, sm_b1 11 rfl rfl, by decide +kernel, by decide +kernel, by decide +kernel, by decide⟩
theorem mt_206 : sm_mt 206 = ((yX10_worst, cX10_worst, 7, (some .int)), false, 3) := rfl
theorem mok_X10_worst : sm_mok (yX10_worst, cX10_worst, 7, (some .int)) := ⟨sm_b6 153 rfl rfl, sm_b1 11 rfl rfl, by decide +kernel, by decide +kernel, by decide +kernel, by decide⟩
theorem mt_207 : sm_mt 207 = ((yX10_fewest, cX10_fewest, 6, (some .int)), false, 2) := rfl
theorem mok_X10_fewest : sm_mok (yX10_fewest, cX10_fewest, 6, (some .int)) := ⟨sm_b6 149 rfl rfl, sm_b1 11 rfl rfl, by decide +kernel, by decide +kernel, by decide +kernel, by decide⟩
theorem mt_208 : sm_mt 208 = ((yX10_stands, cX10_stands, 2, (some .boolean)), false, 2) := rfl
theorem mok_X10_stands : sm_mok (yX10_stands, cX10_stands, 2, (some .boolean)) := ⟨sm_b6 165 rfl rfl, sm_b1 11 rfl rfl, by decide +kernel, by decide +kernel, by decide +kernel, by decide⟩
theorem mt_209 : sm_mt 209 = ((yX10_standing, cX10_standing, 4, (some .int)), false, 2) := rfl
theorem mok_X10_standing : sm_mok (yX10_standing, cX10_standing, 4, (some .int)) := ⟨sm_b6 185 rfl rfl, sm_b1 11 rfl rfl, by decide +kernel, by decide +kernel, by decide +kernel, by decide⟩
theorem mt_210 : sm_mt 210 = ((yX10_claim, cX10_claim, 4, (some .int)), false, 3) := rfl
theorem mok_X10_claim : sm_mok (yX10_claim, cX10_claim, 4, (some .int)) := ⟨sm_b6 161 rfl rfl, sm_b1 11 rfl rfl, by decide +kernel, by decide +kernel, by decide +kernel, by decide⟩
theorem mt_211 : sm_mt 211 = ((yX10_prove, cX10_prove, 5, (some .int)), false, 4) := rfl
theorem mok_X10_prove : sm_mok (yX10_prove, cX10_prove, 5, (some .int)) := ⟨sm_b6 169 rfl rfl, sm_b1 11 rfl rfl, by decide +kernel, by decide +kernel, by decide +kernel, by decide⟩
theorem mt_212 : sm_mt 212 = ((yX10_goesOut, cX10_goesOut, 5, none), false, 4) := rfl
theorem mok_X10_goesOut : sm_mok (yX10_goesOut, cX10_goesOut, 5, none) := ⟨sm_b6 181 rfl rfl, sm_b1 11 rfl rfl, by decide +kernel, by decide +kernel, by decide +kernel, by decide⟩
theorem mt_213 : sm_mt 213 = ((yX10_withdrawAll, cX10_withdrawAll, 3, none), false, 2) := rfl
theorem mok_X10_withdrawAll : sm_mok (yX10_withdrawAll, cX10_withdrawAll, 3, none) := ⟨sm_b6 177 rfl rfl, sm_b1 11 rfl rfl, by decide +kernel, by decide +kernel, by decide +kernel, by decide⟩
theorem mt_214 : sm_mt 214 = ((yX10_give, cX10_give, 5, (some .int)), false, 2) := rfl
theorem mok_X10_give : sm_mok (yX10_give, cX10_give, 5, (some .int)) := ⟨sm_b6 173 rfl rfl, sm_b1 11 rfl rfl, by decide +kernel, by decide +kernel, by decide +kernel, by decide⟩
theorem mt_215 : sm_mt 215 = ((yX10_withdraw, cX10_withdraw, 2, (some .boolean)), false, 2) := rfl
theorem mok_X10_withdraw : sm_mok (yX10_withdraw, cX10_withdraw, 2, (some .boolean)) := ⟨sm_b6 189 rfl rfl, sm_b1 11 rfl rfl, by decide +kernel, by decide +kernel, by decide +kernel, by decide⟩
theorem mt_216 : sm_mt 216 = ((yX10_close, cX10_close, 2, (some .boolean)), false, 2) := rfl
theorem mok_X10_close : sm_mok (yX10_close, cX10_close, 2, (some .boolean)) := ⟨sm_b6 193 rfl rfl, sm_b1 11 rfl rfl, by decide +kernel, by decide +kernel, by decide +kernel, by decide⟩
theorem mt_217 : sm_mt 217 = ((yX10_claimed, cX10_claimed, 3, (some .int)), false, 3) := rfl
theorem mok_X10_claimed : sm_mok (yX10_claimed, cX10_claimed, 3, (some .int)) := ⟨sm_b6 197 rfl rfl, sm_b1 11 rfl rfl, by decide +kernel, by decide +kernel, by decide +kernel, by decide⟩
theorem mt_218 : sm_mt 218 = ((yX10_into, cX10_into, 4, (some .boolean)), false, 3) := rfl
theorem mok_X10_into : sm_mok (yX10_into, cX10_into, 4, (some .boolean)) := ⟨sm_b6 201 rfl rfl, sm_b1 11 rfl rfl, by decide +kernel, by decide +kernel, by decide +kernel, by decide⟩
theorem mt_219 : sm_mt 219 = ((yX10_inside, cX10_inside, 4, (some .int)), false, 2) := rfl
theorem mok_X10_inside : sm_mok (yX10_inside, cX10_inside, 4, (some .int)) := ⟨sm_b6 209 rfl rfl, sm_b1 11 rfl rfl, by decide +kernel, by decide +kernel, by decide +kernel, by decide⟩
theorem mt_220 : sm_mt 220 = ((yX10_place, cX10_place, 3, (some .int)), false, 3) := rfl
theorem mok_X10_place : sm_mok (yX10_place, cX10_place, 3, (some .int)) := ⟨sm_b6 205 rfl rfl, sm_b1 11 rfl rfl, by decide +kernel, by decide +kernel, by decide +kernel, by decide⟩
theorem mt_221 : sm_mt 221 = ((yX10_days, cX10_days, 3, (some .boolean)), false, 3) := rfl
theorem mok_X10_days : sm_mok (yX10_days, cX10_days, 3, (some .boolean)) := ⟨sm_b6 213 rfl rfl, sm_b1 11 rfl rfl, by decide +kernel, by decide +kernel, by decide +kernel, by decide⟩
theorem mt_222 : sm_mt 222 = ((yX10_oneDay, cX10_oneDay, 2, none), false, 1) := rfl
theorem mok_X10_oneDay : sm_mok (yX10_oneDay, cX10_oneDay, 2, none) := ⟨sm_b6 221 rfl rfl, sm_b1 11 rfl rfl, by decide +kernel, by decide +kernel, by decide +kernel, by decide⟩
theorem mt_223 : sm_mt 223 = ((yX10_day, cX10_day, 4, (some .int)), false, 2) := rfl
theorem mok_X10_day : sm_mok (yX10_day, cX10_day, 4, (some .int)) := ⟨sm_b6 217 rfl rfl, sm_b1 11 rfl rfl, by decide +kernel, by decide +kernel, by decide +kernel, by decide⟩
theorem mt_224 : sm_mt 224 = ((yX10_count, cX10_count, 4, (some .int)), false, 2) := rfl
theorem mok_X10_count : sm_mok (yX10_count, cX10_count, 4, (some .int)) := ⟨sm_b6 225 rfl rfl, sm_b1 11 rfl rfl, by decide +kernel, by decide +kernel, by decide +kernel, by decide⟩
theorem mt_225 : sm_mt 225 = ((yX10_gone, cX10_gone, 2, (some .int)), false, 2) := rfl
theorem mok_X10_gone : sm_mok (yX10_gone, cX10_gone, 2, (some .int)) := ⟨sm_b6 229 rfl rfl, sm_b1 11 rfl rfl, by decide +kernel, by decide +kernel, by decide +kernel, by decide⟩
theorem mt_226 : sm_mt 226 = ((yJ6_bitCount_0f7a4, cJ6_bitCount_0f7a4, 1, (some .int)), true, 1) := rfl
theorem mok_J6_bitCount_0f7a4 : sm_mok (yJ6_bitCount_0f7a4, cJ6_bitCount_0f7a4, 1, (some .int)) := ⟨sm_b3 217 rfl rfl, sm_b1 14 rfl rfl, by decide +kernel, by decide +kernel, by decide +kernel, by decide⟩
theorem mt_227 : sm_mt 227 = ((yJ13_bitCount_95d88, cJ13_bitCount_95d88, 2, (some .int)), true, 1) := rfl
theorem mok_J13_bitCount_95d88 : sm_mok (yJ13_bitCount_95d88, cJ13_bitCount_95d88, 2, (some .int)) := ⟨sm_b3 15 rfl rfl, sm_b1 13 rfl rfl, by decide +kernel, by decide +kernel, by decide +kernel, by decide⟩
theorem vf_X0_9 : sm_fok TX0_.1 9 2 := ⟨RX0, TX0, 6, rfl, by decide, rfl, sm_b2 10 rfl rfl⟩
theorem vf_X0_15 : sm_fok TX0_.1 15 3 := ⟨RX0, TX0, 6, rfl, by decide, rfl, sm_b2 11 rfl rfl⟩
theorem vf_X0_18 : sm_fok TX0_.1 18 4 := ⟨RX0, TX0, 6, rfl, by decide, rfl, sm_b2 12 rfl rfl⟩
theorem vf_X0_21 : sm_fok TX0_.1 21 5 := ⟨RX0, TX0, 6, rfl, by decide, rfl, sm_b2 13 rfl rfl⟩
theorem vf_X0_25 : sm_fok TX0_.1 25 0 := ⟨RX0, TX0, 6, rfl, by decide, rfl, sm_b2 8 rfl rfl⟩
theorem vf_X0_29 : sm_fok TX0_.1 29 1 := ⟨RX0, TX0, 6, rfl, by decide, rfl, sm_b2 9 rfl rfl⟩
theorem vs_X0_33 : sm_ent TX0_.1 (.invokevirtual 33) 65 1 (sm_mt 65) := by
  rw [mt_65]
  exact Or.inr (Or.inr ⟨by decide, by decide, rfl, 0, mok_X5_size, 33, rfl, rfl, by decide +kernel, sm_b3 163 rfl rfl, sm_b3 164 rfl rfl, sm_b3 165 rfl rfl⟩)
theorem vs_X0_39 : sm_ent TX0_.1 (.invokevirtual 39) 86 3 (sm_mt 86) := by
  rw [mt_86]
  exact Or.inr (Or.inr ⟨by decide, by decide, rfl, 0, mok_X7_answerOf, 39, rfl, rfl, by decide +kernel, sm_b3 167 rfl rfl, sm_b2 176 rfl rfl, sm_b2 177 rfl rfl⟩)
theorem vs_X0_49 : sm_ent TX0_.1 (.invokevirtual 49) 4 4 (sm_mt 4) := by
  rw [mt_4]
  exact Or.inr (Or.inr ⟨by decide, by decide, rfl, 0, mok_X0_isFirstOfClass, 49, rfl, rfl, by decide +kernel, sm_b3 177 rfl rfl, sm_b3 179 rfl rfl, sm_p1 14 rfl rfl⟩)
theorem vs_X0_53 : sm_ent TX0_.1 (.invokevirtual 53) 3 3 (sm_mt 3) := by
  rw [mt_3]
  exact Or.inr (Or.inr ⟨by decide, by decide, rfl, 0, mok_X0_countClasses, 53, rfl, rfl, by decide +kernel, sm_b3 189 rfl rfl, sm_b3 173 rfl rfl, sm_b3 174 rfl rfl⟩)
theorem vs_X0_57 : sm_ent TX0_.1 (.invokevirtual 57) 7 2 (sm_mt 7) := by
  rw [mt_7]
  exact Or.inr (Or.inr ⟨by decide, by decide, rfl, 0, mok_X0_listDistinct, 57, rfl, rfl, by decide +kernel, sm_b3 198 rfl rfl, sm_b3 200 rfl rfl, sm_p1 15 rfl rfl⟩)
theorem vs_X0_61 : sm_ent TX0_.1 (.invokevirtual 61) 9 3 (sm_mt 9) := by
  rw [mt_9]
  exact Or.inr (Or.inr ⟨by decide, by decide, rfl, 0, mok_X0_classOf, 61, rfl, rfl, by decide +kernel, sm_b3 207 rfl rfl, sm_b3 209 rfl rfl, sm_p2 1 rfl rfl⟩)
theorem vs_X0_64 : sm_ent TX0_.1 (.invokevirtual 64) 10 3 (sm_mt 10) := by
  rw [mt_10]
  exact Or.inr (Or.inr ⟨by decide, by decide, rfl, 0, mok_X0_search, 64, rfl, rfl, by decide +kernel, sm_b3 211 rfl rfl, sm_b3 213 rfl rfl, sm_p2 2 rfl rfl⟩)
theorem vs_X0_67 : sm_ent TX0_.1 (.invokevirtual 67) 8 2 (sm_mt 8) := by
  rw [mt_8]
  exact Or.inr (Or.inr ⟨by decide, by decide, rfl, 0, mok_X0_isListed, 67, rfl, rfl, by decide +kernel, sm_b3 202 rfl rfl, sm_b3 204 rfl rfl, sm_p2 0 rfl rfl⟩)
theorem vs_X0_71 : sm_ent TX0_.1 (.invokevirtual 71) 2 3 (sm_mt 2) := by
  rw [mt_2]
  exact Or.inr (Or.inr ⟨by decide, by decide, rfl, 0, mok_X0_isAlike, 71, rfl, rfl, by decide +kernel, sm_b3 206 rfl rfl, sm_b3 160 rfl rfl, sm_b3 161 rfl rfl⟩)
theorem vs_X0_81 : sm_ent TX0_.1 (.invokevirtual 81) 12 3 (sm_mt 12) := by
  rw [mt_12]
  exact Or.inr (Or.inr ⟨by decide, by decide, rfl, 0, mok_X0_lowerBound, 81, rfl, rfl, by decide +kernel, sm_b3 221 rfl rfl, sm_b3 223 rfl rfl, sm_p2 3 rfl rfl⟩)
theorem vs_X0_84 : sm_ent TX0_.1 (.invokevirtual 84) 11 5 (sm_mt 11) := by
  rw [mt_11]
  exact Or.inr (Or.inr ⟨by decide, by decide, rfl, 0, mok_X0_neededBehind, 84, rfl, rfl, by decide +kernel, sm_b3 230 rfl rfl, sm_b3 232 rfl rfl, sm_p2 5 rfl rfl⟩)
theorem vs_X0_96 : sm_ent TX0_.1 (.invokevirtual 96) 13 3 (sm_mt 13) := by
  rw [mt_13]
  exact Or.inr (Or.inr ⟨by decide, by decide, rfl, 0, mok_X0_countParts, 96, rfl, rfl, by decide +kernel, sm_b3 225 rfl rfl, sm_b3 227 rfl rfl, sm_p2 4 rfl rfl⟩)
theorem vs_X0_100045 : sm_ent TX0_.1 (.invokestatic 45) 132 2 (sm_mt 132) := by
  rw [mt_132]
  exact Or.inr (Or.inr ⟨by decide, by decide, rfl, 2, mok_X9_isIn, 45, rfl, rfl, by decide +kernel, fun U h => h.2.2, sm_b3 24 rfl rfl⟩)
theorem vs_X0_100075 : sm_ent TX0_.1 (.invokestatic 75) 226 1 (sm_mt 226) := by
  rw [mt_226]
  exact Or.inr (Or.inr ⟨by decide, by decide, rfl, 1, mok_J6_bitCount_0f7a4, 75, rfl, rfl, by decide +kernel, sm_b3 215 rfl rfl, sm_b3 216 rfl rfl⟩)
theorem vs_X0_100088 : sm_ent TX0_.1 (.invokestatic 88) 229 2 (sm_mt 229) := (fun h => Or.inr (Or.inl h)) ⟨rfl, rfl, 88, rfl, sm_b3 234 rfl rfl, sm_b2 105 rfl rfl, sm_b1 12 rfl rfl, sm_b2 106 rfl rfl⟩
theorem vs_X0_100093 : sm_ent TX0_.1 (.invokestatic 93) 228 2 (sm_mt 228) := (Or.inl) ⟨rfl, rfl, 93, rfl, sm_b3 229 rfl rfl, sm_b2 102 rfl rfl, sm_b1 12 rfl rfl, sm_b2 103 rfl rfl⟩
theorem v_tok_X0 : sm_tok sm_mt TX0_ := ⟨v_lk (List.forall_mem_cons.mpr ⟨vf_X0_9, List.forall_mem_cons.mpr ⟨vf_X0_15, List.forall_mem_cons.mpr ⟨vf_X0_18, List.forall_mem_cons.mpr ⟨vf_X0_21, List.forall_mem_cons.mpr ⟨vf_X0_25, List.forall_mem_cons.mpr ⟨vf_X0_29, (fun _ h => absurd h List.not_mem_nil)⟩⟩⟩⟩⟩⟩), v_lk ((fun _ h => absurd h List.not_mem_nil)), v_lk ((fun _ h => absurd h List.not_mem_nil)), fun ix mid n h h2 => v_lk (P := fun ix q => ix < 100000 → sm_ent TX0_.1 (.invokevirtual ix) q.1 q.2 (sm_mt q.1)) (List.forall_mem_cons.mpr ⟨(fun _ => vs_X0_33), List.forall_mem_cons.mpr ⟨(fun _ => vs_X0_39), List.forall_mem_cons.mpr ⟨(fun _ => vs_X0_49), List.forall_mem_cons.mpr ⟨(fun _ => vs_X0_53), List.forall_mem_cons.mpr ⟨(fun _ => vs_X0_57), List.forall_mem_cons.mpr ⟨(fun _ => vs_X0_61), List.forall_mem_cons.mpr ⟨(fun _ => vs_X0_64), List.forall_mem_cons.mpr ⟨(fun _ => vs_X0_67), List.forall_mem_cons.mpr ⟨(fun _ => vs_X0_71), List.forall_mem_cons.mpr ⟨(fun _ => vs_X0_81), List.forall_mem_cons.mpr ⟨(fun _ => vs_X0_84), List.forall_mem_cons.mpr ⟨(fun _ => vs_X0_96), List.forall_mem_cons.mpr ⟨(fun (h : 100045 < 100000) => absurd h (by omega)), List.forall_mem_cons.mpr ⟨(fun (h : 100075 < 100000) => absurd h (by omega)), List.forall_mem_cons.mpr ⟨(fun (h : 100088 < 100000) => absurd h (by omega)), List.forall_mem_cons.mpr ⟨(fun (h : 100093 < 100000) => absurd h (by omega)), (fun _ h => absurd h List.not_mem_nil)⟩⟩⟩⟩⟩⟩⟩⟩⟩⟩⟩⟩⟩⟩⟩⟩) ix (mid, n) h h2, fun ix mid n h => v_lk (P := fun ix q => ∀ j, ix = j + 100000 → sm_ent TX0_.1 (.invokestatic j) q.1 q.2 (sm_mt q.1)) (List.forall_mem_cons.mpr ⟨(fun j (h : 33 = j + 100000) => absurd h (by omega)), List.forall_mem_cons.mpr ⟨(fun j (h : 39 = j + 100000) => absurd h (by omega)), List.forall_mem_cons.mpr ⟨(fun j (h : 49 = j + 100000) => absurd h (by omega)), List.forall_mem_cons.mpr ⟨(fun j (h : 53 = j + 100000) => absurd h (by omega)), List.forall_mem_cons.mpr ⟨(fun j (h : 57 = j + 100000) => absurd h (by omega)), List.forall_mem_cons.mpr ⟨(fun j (h : 61 = j + 100000) => absurd h (by omega)), List.forall_mem_cons.mpr ⟨(fun j (h : 64 = j + 100000) => absurd h (by omega)), List.forall_mem_cons.mpr ⟨(fun j (h : 67 = j + 100000) => absurd h (by omega)), List.forall_mem_cons.mpr ⟨(fun j (h : 71 = j + 100000) => absurd h (by omega)), List.forall_mem_cons.mpr ⟨(fun j (h : 81 = j + 100000) => absurd h (by omega)), List.forall_mem_cons.mpr ⟨(fun j (h : 84 = j + 100000) => absurd h (by omega)), List.forall_mem_cons.mpr ⟨(fun j (h : 96 = j + 100000) => absurd h (by omega)), List.forall_mem_cons.mpr ⟨(fun j (h : 100045 = j + 100000) => (show j = 45 by omega) ▸ vs_X0_100045), List.forall_mem_cons.mpr ⟨(fun j (h : 100075 = j + 100000) => (show j = 75 by omega) ▸ vs_X0_100075), List.forall_mem_cons.mpr ⟨(fun j (h : 100088 = j + 100000) => (show j = 88 by omega) ▸ vs_X0_100088), List.forall_mem_cons.mpr ⟨(fun j (h : 100093 = j + 100000) => (show j = 93 by omega) ▸ vs_X0_100093), (fun _ h => absurd h List.not_mem_nil)⟩⟩⟩⟩⟩⟩⟩⟩⟩⟩⟩⟩⟩⟩⟩⟩) (ix + 100000) (mid, n) h ix rfl⟩
theorem vf_X1_11 : sm_fok TX1_.1 11 100 := ⟨RX1, TX1, 11, rfl, by decide, rfl, sm_b1 183 rfl rfl⟩
theorem vf_X1_15 : sm_fok TX1_.1 15 101 := ⟨RX1, TX1, 11, rfl, by decide, rfl, sm_b1 184 rfl rfl⟩
theorem vf_X1_19 : sm_fok TX1_.1 19 102 := ⟨RX1, TX1, 11, rfl, by decide, rfl, sm_b1 185 rfl rfl⟩
theorem vf_X1_22 : sm_fok TX1_.1 22 103 := ⟨RX1, TX1, 11, rfl, by decide, rfl, sm_b1 186 rfl rfl⟩
theorem vf_X1_25 : sm_fok TX1_.1 25 104 := ⟨RX1, TX1, 11, rfl, by decide, rfl, sm_b1 187 rfl rfl⟩
theorem vf_X1_28 : sm_fok TX1_.1 28 105 := ⟨RX1, TX1, 11, rfl, by decide, rfl, sm_b1 188 rfl rfl⟩
theorem vf_X1_31 : sm_fok TX1_.1 31 106 := ⟨RX1, TX1, 11, rfl, by decide, rfl, sm_b1 189 rfl rfl⟩
theorem vf_X1_34 : sm_fok TX1_.1 34 107 := ⟨RX1, TX1, 11, rfl, by decide, rfl, sm_b1 190 rfl rfl⟩
theorem vf_X1_38 : sm_fok TX1_.1 38 108 := ⟨RX1, TX1, 11, rfl, by decide, rfl, sm_b1 191 rfl rfl⟩
theorem vf_X1_42 : sm_fok TX1_.1 42 109 := ⟨RX1, TX1, 11, rfl, by decide, rfl, sm_b1 192 rfl rfl⟩
theorem vf_X1_45 : sm_fok TX1_.1 45 110 := ⟨RX1, TX1, 11, rfl, by decide, rfl, sm_b1 193 rfl rfl⟩
theorem vs_X1_63 : sm_ent TX1_.1 (.invokevirtual 63) 18 1 (sm_mt 18) := by
  rw [mt_18]
  exact Or.inr (Or.inr ⟨by decide, by decide, rfl, 0, mok_X1_reachFree, 63, rfl, rfl, by decide +kernel, sm_b3 86 rfl rfl, sm_b3 88 rfl rfl, sm_p1 8 rfl rfl⟩)
theorem vs_X1_67 : sm_ent TX1_.1 (.invokevirtual 67) 23 2 (sm_mt 23) := by
  rw [mt_23]
  exact Or.inr (Or.inr ⟨by decide, by decide, rfl, 0, mok_X1_passOn, 67, rfl, rfl, by decide +kernel, sm_b3 107 rfl rfl, sm_b3 109 rfl rfl, sm_p1 13 rfl rfl⟩)
theorem vs_X1_73 : sm_ent TX1_.1 (.invokevirtual 73) 19 2 (sm_mt 19) := by
  rw [mt_19]
  exact Or.inr (Or.inr ⟨by decide, by decide, rfl, 0, mok_X1_holderOf, 73, rfl, rfl, by decide +kernel, sm_b3 91 rfl rfl, sm_b3 93 rfl rfl, sm_p1 9 rfl rfl⟩)
theorem vs_X1_77 : sm_ent TX1_.1 (.invokevirtual 77) 20 2 (sm_mt 20) := by
  rw [mt_20]
  exact Or.inr (Or.inr ⟨by decide, by decide, rfl, 0, mok_X1_lookFrom, 77, rfl, rfl, by decide +kernel, sm_b3 95 rfl rfl, sm_b3 97 rfl rfl, sm_p1 10 rfl rfl⟩)
theorem vs_X1_80 : sm_ent TX1_.1 (.invokevirtual 80) 21 1 (sm_mt 21) := by
  rw [mt_21]
  exact Or.inr (Or.inr ⟨by decide, by decide, rfl, 0, mok_X1_nearest, 80, rfl, rfl, by decide +kernel, sm_b3 99 rfl rfl, sm_b3 101 rfl rfl, sm_p1 11 rfl rfl⟩)
theorem vs_X1_83 : sm_ent TX1_.1 (.invokevirtual 83) 22 2 (sm_mt 22) := by
  rw [mt_22]
  exact Or.inr (Or.inr ⟨by decide, by decide, rfl, 0, mok_X1_changePrices, 83, rfl, rfl, by decide +kernel, sm_b3 103 rfl rfl, sm_b3 105 rfl rfl, sm_p1 12 rfl rfl⟩)
theorem vs_X1_87 : sm_ent TX1_.1 (.invokevirtual 87) 24 2 (sm_mt 24) := by
  rw [mt_24]
  exact Or.inr (Or.inr ⟨by decide, by decide, rfl, 0, mok_X1_columnOf, 87, rfl, rfl, by decide +kernel, sm_b3 131 rfl rfl, sm_b3 116 rfl rfl, sm_b3 117 rfl rfl⟩)
theorem vs_X1_100048 : sm_ent TX1_.1 (.invokestatic 48) 229 2 (sm_mt 229) := (fun h => Or.inr (Or.inl h)) ⟨rfl, rfl, 48, rfl, sm_b3 71 rfl rfl, sm_b2 105 rfl rfl, sm_b1 12 rfl rfl, sm_b2 106 rfl rfl⟩
theorem vs_X1_100054 : sm_ent TX1_.1 (.invokestatic 54) 228 2 (sm_mt 228) := (Or.inl) ⟨rfl, rfl, 54, rfl, sm_b3 72 rfl rfl, sm_b2 102 rfl rfl, sm_b1 12 rfl rfl, sm_b2 103 rfl rfl⟩
theorem v_tok_X1 : sm_tok sm_mt TX1_ := ⟨v_lk (List.forall_mem_cons.mpr ⟨vf_X1_11, List.forall_mem_cons.mpr ⟨vf_X1_15, List.forall_mem_cons.mpr ⟨vf_X1_19, List.forall_mem_cons.mpr ⟨vf_X1_22, List.forall_mem_cons.mpr ⟨vf_X1_25, List.forall_mem_cons.mpr ⟨vf_X1_28, List.forall_mem_cons.mpr ⟨vf_X1_31, List.forall_mem_cons.mpr ⟨vf_X1_34, List.forall_mem_cons.mpr ⟨vf_X1_38, List.forall_mem_cons.mpr ⟨vf_X1_42, List.forall_mem_cons.mpr ⟨vf_X1_45, (fun _ h => absurd h List.not_mem_nil)⟩⟩⟩⟩⟩⟩⟩⟩⟩⟩⟩), v_lk ((fun _ h => absurd h List.not_mem_nil)), v_lk (List.forall_mem_cons.mpr ⟨sm_b3 73 rfl rfl, List.forall_mem_cons.mpr ⟨sm_b3 80 rfl rfl, List.forall_mem_cons.mpr ⟨sm_b3 81 rfl rfl, List.forall_mem_cons.mpr ⟨sm_b3 90 rfl rfl, (fun _ h => absurd h List.not_mem_nil)⟩⟩⟩⟩), fun ix mid n h h2 => v_lk (P := fun ix q => ix < 100000 → sm_ent TX1_.1 (.invokevirtual ix) q.1 q.2 (sm_mt q.1)) (List.forall_mem_cons.mpr ⟨(fun _ => vs_X1_63), List.forall_mem_cons.mpr ⟨(fun _ => vs_X1_67), List.forall_mem_cons.mpr ⟨(fun _ => vs_X1_73), List.forall_mem_cons.mpr ⟨(fun _ => vs_X1_77), List.forall_mem_cons.mpr ⟨(fun _ => vs_X1_80), List.forall_mem_cons.mpr ⟨(fun _ => vs_X1_83), List.forall_mem_cons.mpr ⟨(fun _ => vs_X1_87), List.forall_mem_cons.mpr ⟨(fun (h : 100048 < 100000) => absurd h (by omega)), List.forall_mem_cons.mpr ⟨(fun (h : 100054 < 100000) => absurd h (by omega)), (fun _ h => absurd h List.not_mem_nil)⟩⟩⟩⟩⟩⟩⟩⟩⟩) ix (mid, n) h h2, fun ix mid n h => v_lk (P := fun ix q => ∀ j, ix = j + 100000 → sm_ent TX1_.1 (.invokestatic j) q.1 q.2 (sm_mt q.1)) (List.forall_mem_cons.mpr ⟨(fun j (h : 63 = j + 100000) => absurd h (by omega)), List.forall_mem_cons.mpr ⟨(fun j (h : 67 = j + 100000) => absurd h (by omega)), List.forall_mem_cons.mpr ⟨(fun j (h : 73 = j + 100000) => absurd h (by omega)), List.forall_mem_cons.mpr ⟨(fun j (h : 77 = j + 100000) => absurd h (by omega)), List.forall_mem_cons.mpr ⟨(fun j (h : 80 = j + 100000) => absurd h (by omega)), List.forall_mem_cons.mpr ⟨(fun j (h : 83 = j + 100000) => absurd h (by omega)), List.forall_mem_cons.mpr ⟨(fun j (h : 87 = j + 100000) => absurd h (by omega)), List.forall_mem_cons.mpr ⟨(fun j (h : 100048 = j + 100000) => (show j = 48 by omega) ▸ vs_X1_100048), List.forall_mem_cons.mpr ⟨(fun j (h : 100054 = j + 100000) => (show j = 54 by omega) ▸ vs_X1_100054), (fun _ h => absurd h List.not_mem_nil)⟩⟩⟩⟩⟩⟩⟩⟩⟩) (ix + 100000) (mid, n) h ix rfl⟩
theorem vf_X2_9 : sm_fok TX2_.1 9 200 := ⟨RX2, TX2, 6, rfl, by decide, rfl, sm_b1 130 rfl rfl⟩
theorem vf_X2_15 : sm_fok TX2_.1 15 201 := ⟨RX2, TX2, 6, rfl, by decide, rfl, sm_b1 131 rfl rfl⟩
theorem vf_X2_18 : sm_fok TX2_.1 18 202 := ⟨RX2, TX2, 6, rfl, by decide, rfl, sm_b1 132 rfl rfl⟩
theorem vf_X2_21 : sm_fok TX2_.1 21 203 := ⟨RX2, TX2, 6, rfl, by decide, rfl, sm_b1 133 rfl rfl⟩
theorem vf_X2_25 : sm_fok TX2_.1 25 204 := ⟨RX2, TX2, 6, rfl, by decide, rfl, sm_b1 134 rfl rfl⟩
theorem vf_X2_28 : sm_fok TX2_.1 28 205 := ⟨RX2, TX2, 6, rfl, by decide, rfl, sm_b1 135 rfl rfl⟩
theorem vs_X2_32 : sm_ent TX2_.1 (.invokevirtual 32) 28 2 (sm_mt 28) := by
  rw [mt_28]
  exact Or.inr (Or.inr ⟨by decide, by decide, rfl, 0, mok_X2_has, 32, rfl, rfl, by decide +kernel, sm_b4 30 rfl rfl, sm_b4 31 rfl rfl, sm_b4 32 rfl rfl⟩)
theorem vs_X2_36 : sm_ent TX2_.1 (.invokevirtual 36) 35 2 (sm_mt 35) := by
  rw [mt_35]
  exact Or.inr (Or.inr ⟨by decide, by decide, rfl, 0, mok_X2_isTarget, 36, rfl, rfl, by decide +kernel, sm_b4 17 rfl rfl, sm_b4 19 rfl rfl, sm_p2 6 rfl rfl⟩)
theorem vs_X2_39 : sm_ent TX2_.1 (.invokevirtual 39) 29 1 (sm_mt 29) := by
  rw [mt_29]
  exact Or.inr (Or.inr ⟨by decide, by decide, rfl, 0, mok_X2_isFull, 39, rfl, rfl, by decide +kernel, sm_b4 16 rfl rfl, sm_b4 9 rfl rfl, sm_b4 10 rfl rfl⟩)
theorem vs_X2_43 : sm_ent TX2_.1 (.invokevirtual 43) 30 2 (sm_mt 30) := by
  rw [mt_30]
  exact Or.inr (Or.inr ⟨by decide, by decide, rfl, 0, mok_X2_isStanding, 43, rfl, rfl, by decide +kernel, sm_b4 4 rfl rfl, sm_b4 5 rfl rfl, sm_b4 6 rfl rfl⟩)
theorem vs_X2_46 : sm_ent TX2_.1 (.invokevirtual 46) 42 3 (sm_mt 42) := by
  rw [mt_42]
  exact Or.inr (Or.inr ⟨by decide, by decide, rfl, 0, mok_X2_finish, 46, rfl, rfl, by decide +kernel, sm_b4 79 rfl rfl, sm_b4 39 rfl rfl, sm_b4 40 rfl rfl⟩)
theorem v_tok_X2 : sm_tok sm_mt TX2_ := ⟨v_lk (List.forall_mem_cons.mpr ⟨vf_X2_9, List.forall_mem_cons.mpr ⟨vf_X2_15, List.forall_mem_cons.mpr ⟨vf_X2_18, List.forall_mem_cons.mpr ⟨vf_X2_21, List.forall_mem_cons.mpr ⟨vf_X2_25, List.forall_mem_cons.mpr ⟨vf_X2_28, (fun _ h => absurd h List.not_mem_nil)⟩⟩⟩⟩⟩⟩), v_lk ((fun _ h => absurd h List.not_mem_nil)), v_lk ((fun _ h => absurd h List.not_mem_nil)), fun ix mid n h h2 => v_lk (P := fun ix q => ix < 100000 → sm_ent TX2_.1 (.invokevirtual ix) q.1 q.2 (sm_mt q.1)) (List.forall_mem_cons.mpr ⟨(fun _ => vs_X2_32), List.forall_mem_cons.mpr ⟨(fun _ => vs_X2_36), List.forall_mem_cons.mpr ⟨(fun _ => vs_X2_39), List.forall_mem_cons.mpr ⟨(fun _ => vs_X2_43), List.forall_mem_cons.mpr ⟨(fun _ => vs_X2_46), (fun _ h => absurd h List.not_mem_nil)⟩⟩⟩⟩⟩) ix (mid, n) h h2, fun ix mid n h => v_lk (P := fun ix q => ∀ j, ix = j + 100000 → sm_ent TX2_.1 (.invokestatic j) q.1 q.2 (sm_mt q.1)) (List.forall_mem_cons.mpr ⟨(fun j (h : 32 = j + 100000) => absurd h (by omega)), List.forall_mem_cons.mpr ⟨(fun j (h : 36 = j + 100000) => absurd h (by omega)), List.forall_mem_cons.mpr ⟨(fun j (h : 39 = j + 100000) => absurd h (by omega)), List.forall_mem_cons.mpr ⟨(fun j (h : 43 = j + 100000) => absurd h (by omega)), List.forall_mem_cons.mpr ⟨(fun j (h : 46 = j + 100000) => absurd h (by omega)), (fun _ h => absurd h List.not_mem_nil)⟩⟩⟩⟩⟩) (ix + 100000) (mid, n) h ix rfl⟩
theorem vf_X3_12 : sm_fok TX3_.1 12 302 := ⟨RX3, TX3, 8, rfl, by decide, rfl, sm_b1 219 rfl rfl⟩
theorem vf_X3_18 : sm_fok TX3_.1 18 303 := ⟨RX3, TX3, 8, rfl, by decide, rfl, sm_b1 220 rfl rfl⟩
theorem vf_X3_22 : sm_fok TX3_.1 22 304 := ⟨RX3, TX3, 8, rfl, by decide, rfl, sm_b1 221 rfl rfl⟩
theorem vf_X3_26 : sm_fok TX3_.1 26 305 := ⟨RX3, TX3, 8, rfl, by decide, rfl, sm_b1 222 rfl rfl⟩
theorem vf_X3_29 : sm_fok TX3_.1 29 306 := ⟨RX3, TX3, 8, rfl, by decide, rfl, sm_b1 223 rfl rfl⟩
theorem vf_X3_33 : sm_fok TX3_.1 33 307 := ⟨RX3, TX3, 8, rfl, by decide, rfl, sm_b1 224 rfl rfl⟩
theorem vf_X3_36 : sm_fok TX3_.1 36 300 := ⟨RX3, TX3, 8, rfl, by decide, rfl, sm_b1 217 rfl rfl⟩
theorem vf_X3_40 : sm_fok TX3_.1 40 301 := ⟨RX3, TX3, 8, rfl, by decide, rfl, sm_b1 218 rfl rfl⟩
theorem vs_X3_44 : sm_ent TX3_.1 (.invokevirtual 44) 77 2 (sm_mt 77) := by
  rw [mt_77]
  exact Or.inr (Or.inr ⟨by decide, by decide, rfl, 0, mok_X6_isOpen, 44, rfl, rfl, by decide +kernel, sm_b3 43 rfl rfl, sm_b3 35 rfl rfl, sm_b3 36 rfl rfl⟩)
theorem vs_X3_50 : sm_ent TX3_.1 (.invokevirtual 50) 75 1 (sm_mt 75) := by
  rw [mt_75]
  exact Or.inr (Or.inr ⟨by decide, by decide, rfl, 0, mok_X6_size, 50, rfl, rfl, by decide +kernel, sm_b3 44 rfl rfl, sm_b3 45 rfl rfl, sm_b3 46 rfl rfl⟩)
theorem vs_X3_54 : sm_ent TX3_.1 (.invokevirtual 54) 58 2 (sm_mt 58) := by
  rw [mt_58]
  exact Or.inr (Or.inr ⟨by decide, by decide, rfl, 0, mok_X4_fitSet, 54, rfl, rfl, by decide +kernel, sm_b3 48 rfl rfl, sm_b3 10 rfl rfl, sm_b3 11 rfl rfl⟩)
theorem vs_X3_60 : sm_ent TX3_.1 (.invokevirtual 60) 50 2 (sm_mt 50) := by
  rw [mt_50]
  exact Or.inr (Or.inr ⟨by decide, by decide, rfl, 0, mok_X3_hangTogether, 60, rfl, rfl, by decide +kernel, sm_b3 49 rfl rfl, sm_b3 51 rfl rfl, sm_p1 6 rfl rfl⟩)
theorem vs_X3_63 : sm_ent TX3_.1 (.invokevirtual 63) 51 2 (sm_mt 51) := by
  rw [mt_51]
  exact Or.inr (Or.inr ⟨by decide, by decide, rfl, 0, mok_X3_listMembers, 63, rfl, rfl, by decide +kernel, sm_b3 54 rfl rfl, sm_b3 56 rfl rfl, sm_p1 7 rfl rfl⟩)
theorem vs_X3_71 : sm_ent TX3_.1 (.invokevirtual 71) 48 1 (sm_mt 48) := by
  rw [mt_48]
  exact Or.inr (Or.inr ⟨by decide, by decide, rfl, 0, mok_X3_isTooLarge, 71, rfl, rfl, by decide +kernel, sm_b3 66 rfl rfl, sm_b3 59 rfl rfl, sm_b3 60 rfl rfl⟩)
theorem vs_X3_75 : sm_ent TX3_.1 (.invokevirtual 75) 15 3 (sm_mt 15) := by
  rw [mt_15]
  exact Or.inr (Or.inr ⟨by decide, by decide, rfl, 0, mok_X1_start, 75, rfl, rfl, by decide +kernel, sm_b3 67 rfl rfl, sm_b3 68 rfl rfl, sm_b3 69 rfl rfl⟩)
theorem vs_X3_79 : sm_ent TX3_.1 (.invokevirtual 79) 59 2 (sm_mt 59) := by
  rw [mt_59]
  exact Or.inr (Or.inr ⟨by decide, by decide, rfl, 0, mok_X4_weigh, 79, rfl, rfl, by decide +kernel, sm_b3 74 rfl rfl, sm_b2 224 rfl rfl, sm_b2 225 rfl rfl⟩)
theorem vs_X3_83 : sm_ent TX3_.1 (.invokevirtual 83) 61 2 (sm_mt 61) := by
  rw [mt_61]
  exact Or.inr (Or.inr ⟨by decide, by decide, rfl, 0, mok_X4_addWorths, 83, rfl, rfl, by decide +kernel, sm_b3 75 rfl rfl, sm_b3 2 rfl rfl, sm_b3 3 rfl rfl⟩)
theorem vs_X3_87 : sm_ent TX3_.1 (.invokevirtual 87) 16 4 (sm_mt 16) := by
  rw [mt_16]
  exact Or.inr (Or.inr ⟨by decide, by decide, rfl, 0, mok_X1_allow, 87, rfl, rfl, by decide +kernel, sm_b3 76 rfl rfl, sm_b3 77 rfl rfl, sm_b3 78 rfl rfl⟩)
theorem vs_X3_91 : sm_ent TX3_.1 (.invokevirtual 91) 17 1 (sm_mt 17) := by
  rw [mt_17]
  exact Or.inr (Or.inr ⟨by decide, by decide, rfl, 0, mok_X1_solve, 91, rfl, rfl, by decide +kernel, sm_b3 82 rfl rfl, sm_b3 83 rfl rfl, sm_b3 84 rfl rfl⟩)
theorem vs_X3_94 : sm_ent TX3_.1 (.invokevirtual 94) 25 2 (sm_mt 25) := by
  rw [mt_25]
  exact Or.inr (Or.inr ⟨by decide, by decide, rfl, 0, mok_X1_gainOf, 94, rfl, rfl, by decide +kernel, sm_b3 127 rfl rfl, sm_b3 128 rfl rfl, sm_b3 129 rfl rfl⟩)
theorem vs_X3_97 : sm_ent TX3_.1 (.invokevirtual 97) 24 2 (sm_mt 24) := by
  rw [mt_24]
  exact Or.inr (Or.inr ⟨by decide, by decide, rfl, 0, mok_X1_columnOf, 97, rfl, rfl, by decide +kernel, sm_b3 115 rfl rfl, sm_b3 116 rfl rfl, sm_b3 117 rfl rfl⟩)
theorem vs_X3_100067 : sm_ent TX3_.1 (.invokestatic 67) 132 2 (sm_mt 132) := by
  rw [mt_132]
  exact Or.inr (Or.inr ⟨by decide, by decide, rfl, 2, mok_X9_isIn, 67, rfl, rfl, by decide +kernel, fun U h => h.1, sm_b3 24 rfl rfl⟩)
theorem v_tok_X3 : sm_tok sm_mt TX3_ := ⟨v_lk (List.forall_mem_cons.mpr ⟨vf_X3_12, List.forall_mem_cons.mpr ⟨vf_X3_18, List.forall_mem_cons.mpr ⟨vf_X3_22, List.forall_mem_cons.mpr ⟨vf_X3_26, List.forall_mem_cons.mpr ⟨vf_X3_29, List.forall_mem_cons.mpr ⟨vf_X3_33, List.forall_mem_cons.mpr ⟨vf_X3_36, List.forall_mem_cons.mpr ⟨vf_X3_40, (fun _ h => absurd h List.not_mem_nil)⟩⟩⟩⟩⟩⟩⟩⟩), v_lk ((fun _ h => absurd h List.not_mem_nil)), v_lk ((fun _ h => absurd h List.not_mem_nil)), fun ix mid n h h2 => v_lk (P := fun ix q => ix < 100000 → sm_ent TX3_.1 (.invokevirtual ix) q.1 q.2 (sm_mt q.1)) (List.forall_mem_cons.mpr ⟨(fun _ => vs_X3_44), List.forall_mem_cons.mpr ⟨(fun _ => vs_X3_50), List.forall_mem_cons.mpr ⟨(fun _ => vs_X3_54), List.forall_mem_cons.mpr ⟨(fun _ => vs_X3_60), List.forall_mem_cons.mpr ⟨(fun _ => vs_X3_63), List.forall_mem_cons.mpr ⟨(fun _ => vs_X3_71), List.forall_mem_cons.mpr ⟨(fun _ => vs_X3_75), List.forall_mem_cons.mpr ⟨(fun _ => vs_X3_79), List.forall_mem_cons.mpr ⟨(fun _ => vs_X3_83), List.forall_mem_cons.mpr ⟨(fun _ => vs_X3_87), List.forall_mem_cons.mpr ⟨(fun _ => vs_X3_91), List.forall_mem_cons.mpr ⟨(fun _ => vs_X3_94), List.forall_mem_cons.mpr ⟨(fun _ => vs_X3_97), List.forall_mem_cons.mpr ⟨(fun (h : 100067 < 100000) => absurd h (by omega)), (fun _ h => absurd h List.not_mem_nil)⟩⟩⟩⟩⟩⟩⟩⟩⟩⟩⟩⟩⟩⟩) ix (mid, n) h h2, fun ix mid n h => v_lk (P := fun ix q => ∀ j, ix = j + 100000 → sm_ent TX3_.1 (.invokestatic j) q.1 q.2 (sm_mt q.1)) (List.forall_mem_cons.mpr ⟨(fun j (h : 44 = j + 100000) => absurd h (by omega)), List.forall_mem_cons.mpr ⟨(fun j (h : 50 = j + 100000) => absurd h (by omega)), List.forall_mem_cons.mpr ⟨(fun j (h : 54 = j + 100000) => absurd h (by omega)), List.forall_mem_cons.mpr ⟨(fun j (h : 60 = j + 100000) => absurd h (by omega)), List.forall_mem_cons.mpr ⟨(fun j (h : 63 = j + 100000) => absurd h (by omega)), List.forall_mem_cons.mpr ⟨(fun j (h : 71 = j + 100000) => absurd h (by omega)), List.forall_mem_cons.mpr ⟨(fun j (h : 75 = j + 100000) => absurd h (by omega)), List.forall_mem_cons.mpr ⟨(fun j (h : 79 = j + 100000) => absurd h (by omega)), List.forall_mem_cons.mpr ⟨(fun j (h : 83 = j + 100000) => absurd h (by omega)), List.forall_mem_cons.mpr ⟨(fun j (h : 87 = j + 100000) => absurd h (by omega)), List.forall_mem_cons.mpr ⟨(fun j (h : 91 = j + 100000) => absurd h (by omega)), List.forall_mem_cons.mpr ⟨(fun j (h : 94 = j + 100000) => absurd h (by omega)), List.forall_mem_cons.mpr ⟨(fun j (h : 97 = j + 100000) => absurd h (by omega)), List.forall_mem_cons.mpr ⟨(fun j (h : 100067 = j + 100000) => (show j = 67 by omega) ▸ vs_X3_100067), (fun _ h => absurd h List.not_mem_nil)⟩⟩⟩⟩⟩⟩⟩⟩⟩⟩⟩⟩⟩⟩) (ix + 100000) (mid, n) h ix rfl⟩
theorem vf_X4_9 : sm_fok TX4_.1 9 404 := ⟨RX4, TX4, 5, rfl, by decide, rfl, sm_b1 159 rfl rfl⟩
theorem vf_X4_15 : sm_fok TX4_.1 15 400 := ⟨RX4, TX4, 5, rfl, by decide, rfl, sm_b1 155 rfl rfl⟩
theorem vf_X4_19 : sm_fok TX4_.1 19 401 := ⟨RX4, TX4, 5, rfl, by decide, rfl, sm_b1 156 rfl rfl⟩
theorem vf_X4_23 : sm_fok TX4_.1 23 402 := ⟨RX4, TX4, 5, rfl, by decide, rfl, sm_b1 157 rfl rfl⟩
theorem vf_X4_26 : sm_fok TX4_.1 26 403 := ⟨RX4, TX4, 5, rfl, by decide, rfl, sm_b1 158 rfl rfl⟩
theorem vs_X4_30 : sm_ent TX4_.1 (.invokevirtual 30) 85 2 (sm_mt 85) := by
  rw [mt_85]
  exact Or.inr (Or.inr ⟨by decide, by decide, rfl, 0, mok_X7_knownSetOf, 30, rfl, rfl, by decide +kernel, sm_b2 203 rfl rfl, sm_b2 204 rfl rfl, sm_b2 205 rfl rfl⟩)
theorem vs_X4_36 : sm_ent TX4_.1 (.invokevirtual 36) 86 3 (sm_mt 86) := by
  rw [mt_86]
  exact Or.inr (Or.inr ⟨by decide, by decide, rfl, 0, mok_X7_answerOf, 36, rfl, rfl, by decide +kernel, sm_b2 207 rfl rfl, sm_b2 176 rfl rfl, sm_b2 177 rfl rfl⟩)
theorem vs_X4_40 : sm_ent TX4_.1 (.invokevirtual 40) 73 4 (sm_mt 73) := by
  rw [mt_73]
  exact Or.inr (Or.inr ⟨by decide, by decide, rfl, 0, mok_X5_agree, 40, rfl, rfl, by decide +kernel, sm_b2 208 rfl rfl, sm_b2 98 rfl rfl, sm_b2 99 rfl rfl⟩)
theorem vs_X4_46 : sm_ent TX4_.1 (.invokevirtual 46) 56 3 (sm_mt 56) := by
  rw [mt_56]
  exact Or.inr (Or.inr ⟨by decide, by decide, rfl, 0, mok_X4_firstClash, 46, rfl, rfl, by decide +kernel, sm_b2 199 rfl rfl, sm_b2 200 rfl rfl, sm_b2 201 rfl rfl⟩)
theorem vs_X4_49 : sm_ent TX4_.1 (.invokevirtual 49) 90 1 (sm_mt 90) := by
  rw [mt_90]
  exact Or.inr (Or.inr ⟨by decide, by decide, rfl, 0, mok_X8_size, 49, rfl, rfl, by decide +kernel, sm_b2 231 rfl rfl, sm_b2 232 rfl rfl, sm_b2 233 rfl rfl⟩)
theorem vs_X4_55 : sm_ent TX4_.1 (.invokevirtual 55) 92 2 (sm_mt 92) := by
  rw [mt_92]
  exact Or.inr (Or.inr ⟨by decide, by decide, rfl, 0, mok_X8_isHere, 55, rfl, rfl, by decide +kernel, sm_b2 235 rfl rfl, sm_b2 116 rfl rfl, sm_b2 117 rfl rfl⟩)
theorem vs_X4_59 : sm_ent TX4_.1 (.invokevirtual 59) 60 4 (sm_mt 60) := by
  rw [mt_60]
  exact Or.inr (Or.inr ⟨by decide, by decide, rfl, 0, mok_X4_countHolders, 59, rfl, rfl, by decide +kernel, sm_b2 227 rfl rfl, sm_b2 229 rfl rfl, sm_p1 4 rfl rfl⟩)
theorem vs_X4_63 : sm_ent TX4_.1 (.invokevirtual 63) 67 2 (sm_mt 67) := by
  rw [mt_67]
  exact Or.inr (Or.inr ⟨by decide, by decide, rfl, 0, mok_X5_weightOf, 63, rfl, rfl, by decide +kernel, sm_b2 236 rfl rfl, sm_b2 237 rfl rfl, sm_b2 238 rfl rfl⟩)
theorem vs_X4_66 : sm_ent TX4_.1 (.invokevirtual 66) 57 3 (sm_mt 57) := by
  rw [mt_57]
  exact Or.inr (Or.inr ⟨by decide, by decide, rfl, 0, mok_X4_isFit, 66, rfl, rfl, by decide +kernel, sm_b2 222 rfl rfl, sm_b2 196 rfl rfl, sm_b2 197 rfl rfl⟩)
theorem vs_X4_70 : sm_ent TX4_.1 (.invokevirtual 70) 59 2 (sm_mt 59) := by
  rw [mt_59]
  exact Or.inr (Or.inr ⟨by decide, by decide, rfl, 0, mok_X4_weigh, 70, rfl, rfl, by decide +kernel, sm_b2 223 rfl rfl, sm_b2 224 rfl rfl, sm_b2 225 rfl rfl⟩)
theorem vs_X4_74 : sm_ent TX4_.1 (.invokevirtual 74) 61 2 (sm_mt 61) := by
  rw [mt_61]
  exact Or.inr (Or.inr ⟨by decide, by decide, rfl, 0, mok_X4_addWorths, 74, rfl, rfl, by decide +kernel, sm_b3 1 rfl rfl, sm_b3 2 rfl rfl, sm_b3 3 rfl rfl⟩)
theorem vs_X4_77 : sm_ent TX4_.1 (.invokevirtual 77) 58 2 (sm_mt 58) := by
  rw [mt_58]
  exact Or.inr (Or.inr ⟨by decide, by decide, rfl, 0, mok_X4_fitSet, 77, rfl, rfl, by decide +kernel, sm_b3 140 rfl rfl, sm_b3 10 rfl rfl, sm_b3 11 rfl rfl⟩)
theorem vs_X4_85 : sm_ent TX4_.1 (.invokevirtual 85) 62 3 (sm_mt 62) := by
  rw [mt_62]
  exact Or.inr (Or.inr ⟨by decide, by decide, rfl, 0, mok_X4_strengthOf, 85, rfl, rfl, by decide +kernel, sm_b3 142 rfl rfl, sm_b2 219 rfl rfl, sm_b2 220 rfl rfl⟩)
theorem vs_X4_100081 : sm_ent TX4_.1 (.invokestatic 81) 132 2 (sm_mt 132) := by
  rw [mt_132]
  exact Or.inr (Or.inr ⟨by decide, by decide, rfl, 2, mok_X9_isIn, 81, rfl, rfl, by decide +kernel, fun U h => h.2.1, sm_b3 24 rfl rfl⟩)
theorem v_tok_X4 : sm_tok sm_mt TX4_ := ⟨v_lk (List.forall_mem_cons.mpr ⟨vf_X4_9, List.forall_mem_cons.mpr ⟨vf_X4_15, List.forall_mem_cons.mpr ⟨vf_X4_19, List.forall_mem_cons.mpr ⟨vf_X4_23, List.forall_mem_cons.mpr ⟨vf_X4_26, (fun _ h => absurd h List.not_mem_nil)⟩⟩⟩⟩⟩), v_lk ((fun _ h => absurd h List.not_mem_nil)), v_lk ((fun _ h => absurd h List.not_mem_nil)), fun ix mid n h h2 => v_lk (P := fun ix q => ix < 100000 → sm_ent TX4_.1 (.invokevirtual ix) q.1 q.2 (sm_mt q.1)) (List.forall_mem_cons.mpr ⟨(fun _ => vs_X4_30), List.forall_mem_cons.mpr ⟨(fun _ => vs_X4_36), List.forall_mem_cons.mpr ⟨(fun _ => vs_X4_40), List.forall_mem_cons.mpr ⟨(fun _ => vs_X4_46), List.forall_mem_cons.mpr ⟨(fun _ => vs_X4_49), List.forall_mem_cons.mpr ⟨(fun _ => vs_X4_55), List.forall_mem_cons.mpr ⟨(fun _ => vs_X4_59), List.forall_mem_cons.mpr ⟨(fun _ => vs_X4_63), List.forall_mem_cons.mpr ⟨(fun _ => vs_X4_66), List.forall_mem_cons.mpr ⟨(fun _ => vs_X4_70), List.forall_mem_cons.mpr ⟨(fun _ => vs_X4_74), List.forall_mem_cons.mpr ⟨(fun _ => vs_X4_77), List.forall_mem_cons.mpr ⟨(fun _ => vs_X4_85), List.forall_mem_cons.mpr ⟨(fun (h : 100081 < 100000) => absurd h (by omega)), (fun _ h => absurd h List.not_mem_nil)⟩⟩⟩⟩⟩⟩⟩⟩⟩⟩⟩⟩⟩⟩) ix (mid, n) h h2, fun ix mid n h => v_lk (P := fun ix q => ∀ j, ix = j + 100000 → sm_ent TX4_.1 (.invokestatic j) q.1 q.2 (sm_mt q.1)) (List.forall_mem_cons.mpr ⟨(fun j (h : 30 = j + 100000) => absurd h (by omega)), List.forall_mem_cons.mpr ⟨(fun j (h : 36 = j + 100000) => absurd h (by omega)), List.forall_mem_cons.mpr ⟨(fun j (h : 40 = j + 100000) => absurd h (by omega)), List.forall_mem_cons.mpr ⟨(fun j (h : 46 = j + 100000) => absurd h (by omega)), List.forall_mem_cons.mpr ⟨(fun j (h : 49 = j + 100000) => absurd h (by omega)), List.forall_mem_cons.mpr ⟨(fun j (h : 55 = j + 100000) => absurd h (by omega)), List.forall_mem_cons.mpr ⟨(fun j (h : 59 = j + 100000) => absurd h (by omega)), List.forall_mem_cons.mpr ⟨(fun j (h : 63 = j + 100000) => absurd h (by omega)), List.forall_mem_cons.mpr ⟨(fun j (h : 66 = j + 100000) => absurd h (by omega)), List.forall_mem_cons.mpr ⟨(fun j (h : 70 = j + 100000) => absurd h (by omega)), List.forall_mem_cons.mpr ⟨(fun j (h : 74 = j + 100000) => absurd h (by omega)), List.forall_mem_cons.mpr ⟨(fun j (h : 77 = j + 100000) => absurd h (by omega)), List.forall_mem_cons.mpr ⟨(fun j (h : 85 = j + 100000) => absurd h (by omega)), List.forall_mem_cons.mpr ⟨(fun j (h : 100081 = j + 100000) => (show j = 81 by omega) ▸ vs_X4_100081), (fun _ h => absurd h List.not_mem_nil)⟩⟩⟩⟩⟩⟩⟩⟩⟩⟩⟩⟩⟩⟩) (ix + 100000) (mid, n) h ix rfl⟩
theorem vf_X5_9 : sm_fok TX5_.1 9 500 := ⟨RX5, TX5, 5, rfl, by decide, rfl, sm_b1 33 rfl rfl⟩
theorem vf_X5_15 : sm_fok TX5_.1 15 501 := ⟨RX5, TX5, 5, rfl, by decide, rfl, sm_b1 34 rfl rfl⟩
theorem vf_X5_18 : sm_fok TX5_.1 18 502 := ⟨RX5, TX5, 5, rfl, by decide, rfl, sm_b1 35 rfl rfl⟩
theorem vf_X5_21 : sm_fok TX5_.1 21 503 := ⟨RX5, TX5, 5, rfl, by decide, rfl, sm_b1 36 rfl rfl⟩
theorem vf_X5_25 : sm_fok TX5_.1 25 504 := ⟨RX5, TX5, 5, rfl, by decide, rfl, sm_b1 37 rfl rfl⟩
theorem vs_X5_29 : sm_ent TX5_.1 (.invokevirtual 29) 66 2 (sm_mt 66) := by
  rw [mt_66]
  exact Or.inr (Or.inr ⟨by decide, by decide, rfl, 0, mok_X5_has, 29, rfl, rfl, by decide +kernel, sm_b3 0 rfl rfl, sm_b2 148 rfl rfl, sm_b2 149 rfl rfl⟩)
theorem vs_X5_37 : sm_ent TX5_.1 (.invokevirtual 37) 70 3 (sm_mt 70) := by
  rw [mt_70]
  exact Or.inr (Or.inr ⟨by decide, by decide, rfl, 0, mok_X5_isAnswer, 37, rfl, rfl, by decide +kernel, sm_b2 83 rfl rfl, sm_b2 84 rfl rfl, sm_b2 85 rfl rfl⟩)
theorem vs_X5_40 : sm_ent TX5_.1 (.invokevirtual 40) 72 4 (sm_mt 72) := by
  rw [mt_72]
  exact Or.inr (Or.inr ⟨by decide, by decide, rfl, 0, mok_X5_tellOneWay, 40, rfl, rfl, by decide +kernel, sm_b2 87 rfl rfl, sm_b2 89 rfl rfl, sm_p1 0 rfl rfl⟩)
theorem vs_X5_100033 : sm_ent TX5_.1 (.invokestatic 33) 69 2 (sm_mt 69) := by
  rw [mt_69]
  exact Or.inr (Or.inr ⟨by decide, by decide, rfl, 1, mok_X5_isNumberOf, 33, rfl, rfl, by decide +kernel, sm_b2 72 rfl rfl, sm_b2 73 rfl rfl⟩)
theorem vs_X5_100046 : sm_ent TX5_.1 (.invokestatic 46) 228 2 (sm_mt 228) := (Or.inl) ⟨rfl, rfl, 46, rfl, sm_b2 101 rfl rfl, sm_b2 102 rfl rfl, sm_b1 12 rfl rfl, sm_b2 103 rfl rfl⟩
theorem vs_X5_100052 : sm_ent TX5_.1 (.invokestatic 52) 229 2 (sm_mt 229) := (fun h => Or.inr (Or.inl h)) ⟨rfl, rfl, 52, rfl, sm_b2 104 rfl rfl, sm_b2 105 rfl rfl, sm_b1 12 rfl rfl, sm_b2 106 rfl rfl⟩
theorem v_tok_X5 : sm_tok sm_mt TX5_ := ⟨v_lk (List.forall_mem_cons.mpr ⟨vf_X5_9, List.forall_mem_cons.mpr ⟨vf_X5_15, List.forall_mem_cons.mpr ⟨vf_X5_18, List.forall_mem_cons.mpr ⟨vf_X5_21, List.forall_mem_cons.mpr ⟨vf_X5_25, (fun _ h => absurd h List.not_mem_nil)⟩⟩⟩⟩⟩), v_lk ((fun _ h => absurd h List.not_mem_nil)), v_lk (List.forall_mem_cons.mpr ⟨sm_b2 91 rfl rfl, (fun _ h => absurd h List.not_mem_nil)⟩), fun ix mid n h h2 => v_lk (P := fun ix q => ix < 100000 → sm_ent TX5_.1 (.invokevirtual ix) q.1 q.2 (sm_mt q.1)) (List.forall_mem_cons.mpr ⟨(fun _ => vs_X5_29), List.forall_mem_cons.mpr ⟨(fun _ => vs_X5_37), List.forall_mem_cons.mpr ⟨(fun _ => vs_X5_40), List.forall_mem_cons.mpr ⟨(fun (h : 100033 < 100000) => absurd h (by omega)), List.forall_mem_cons.mpr ⟨(fun (h : 100046 < 100000) => absurd h (by omega)), List.forall_mem_cons.mpr ⟨(fun (h : 100052 < 100000) => absurd h (by omega)), (fun _ h => absurd h List.not_mem_nil)⟩⟩⟩⟩⟩⟩) ix (mid, n) h h2, fun ix mid n h => v_lk (P := fun ix q => ∀ j, ix = j + 100000 → sm_ent TX5_.1 (.invokestatic j) q.1 q.2 (sm_mt q.1)) (List.forall_mem_cons.mpr ⟨(fun j (h : 29 = j + 100000) => absurd h (by omega)), List.forall_mem_cons.mpr ⟨(fun j (h : 37 = j + 100000) => absurd h (by omega)), List.forall_mem_cons.mpr ⟨(fun j (h : 40 = j + 100000) => absurd h (by omega)), List.forall_mem_cons.mpr ⟨(fun j (h : 100033 = j + 100000) => (show j = 33 by omega) ▸ vs_X5_100033), List.forall_mem_cons.mpr ⟨(fun j (h : 100046 = j + 100000) => (show j = 46 by omega) ▸ vs_X5_100046), List.forall_mem_cons.mpr ⟨(fun j (h : 100052 = j + 100000) => (show j = 52 by omega) ▸ vs_X5_100052), (fun _ h => absurd h List.not_mem_nil)⟩⟩⟩⟩⟩⟩) (ix + 100000) (mid, n) h ix rfl⟩
theorem vf_X6_9 : sm_fok TX6_.1 9 600 := ⟨RX6, TX6, 3, rfl, by decide, rfl, sm_b1 73 rfl rfl⟩
theorem vf_X6_15 : sm_fok TX6_.1 15 601 := ⟨RX6, TX6, 3, rfl, by decide, rfl, sm_b1 74 rfl rfl⟩
theorem vf_X6_19 : sm_fok TX6_.1 19 602 := ⟨RX6, TX6, 3, rfl, by decide, rfl, sm_b1 75 rfl rfl⟩
theorem vs_X6_23 : sm_ent TX6_.1 (.invokevirtual 23) 76 2 (sm_mt 76) := by
  rw [mt_76]
  exact Or.inr (Or.inr ⟨by decide, by decide, rfl, 0, mok_X6_has, 23, rfl, rfl, by decide +kernel, sm_b3 38 rfl rfl, sm_b2 140 rfl rfl, sm_b2 141 rfl rfl⟩)
theorem v_tok_X6 : sm_tok sm_mt TX6_ := ⟨v_lk (List.forall_mem_cons.mpr ⟨vf_X6_9, List.forall_mem_cons.mpr ⟨vf_X6_15, List.forall_mem_cons.mpr ⟨vf_X6_19, (fun _ h => absurd h List.not_mem_nil)⟩⟩⟩), v_lk ((fun _ h => absurd h List.not_mem_nil)), v_lk ((fun _ h => absurd h List.not_mem_nil)), fun ix mid n h h2 => v_lk (P := fun ix q => ix < 100000 → sm_ent TX6_.1 (.invokevirtual ix) q.1 q.2 (sm_mt q.1)) (List.forall_mem_cons.mpr ⟨(fun _ => vs_X6_23), (fun _ h => absurd h List.not_mem_nil)⟩) ix (mid, n) h h2, fun ix mid n h => v_lk (P := fun ix q => ∀ j, ix = j + 100000 → sm_ent TX6_.1 (.invokestatic j) q.1 q.2 (sm_mt q.1)) (List.forall_mem_cons.mpr ⟨(fun j (h : 23 = j + 100000) => absurd h (by omega)), (fun _ h => absurd h List.not_mem_nil)⟩) (ix + 100000) (mid, n) h ix rfl⟩
theorem vf_X7_9 : sm_fok TX7_.1 9 700 := ⟨RX7, TX7, 3, rfl, by decide, rfl, sm_b1 57 rfl rfl⟩
theorem vf_X7_15 : sm_fok TX7_.1 15 701 := ⟨RX7, TX7, 3, rfl, by decide, rfl, sm_b1 58 rfl rfl⟩
theorem vf_X7_18 : sm_fok TX7_.1 18 702 := ⟨RX7, TX7, 3, rfl, by decide, rfl, sm_b1 59 rfl rfl⟩
theorem vs_X7_100021 : sm_ent TX7_.1 (.invokestatic 21) 83 1 (sm_mt 83) := by
  rw [mt_83]
  exact Or.inr (Or.inr ⟨by decide, by decide, rfl, 1, mok_X7_isRow, 21, rfl, rfl, by decide +kernel, sm_b2 159 rfl rfl, sm_b2 160 rfl rfl⟩)
theorem vs_X7_100025 : sm_ent TX7_.1 (.invokestatic 25) 228 2 (sm_mt 228) := (Or.inl) ⟨rfl, rfl, 25, rfl, sm_b2 162 rfl rfl, sm_b2 102 rfl rfl, sm_b1 12 rfl rfl, sm_b2 103 rfl rfl⟩
theorem v_tok_X7 : sm_tok sm_mt TX7_ := ⟨v_lk (List.forall_mem_cons.mpr ⟨vf_X7_9, List.forall_mem_cons.mpr ⟨vf_X7_15, List.forall_mem_cons.mpr ⟨vf_X7_18, (fun _ h => absurd h List.not_mem_nil)⟩⟩⟩), v_lk ((fun _ h => absurd h List.not_mem_nil)), v_lk ((fun _ h => absurd h List.not_mem_nil)), fun ix mid n h h2 => v_lk (P := fun ix q => ix < 100000 → sm_ent TX7_.1 (.invokevirtual ix) q.1 q.2 (sm_mt q.1)) (List.forall_mem_cons.mpr ⟨(fun (h : 100021 < 100000) => absurd h (by omega)), List.forall_mem_cons.mpr ⟨(fun (h : 100025 < 100000) => absurd h (by omega)), (fun _ h => absurd h List.not_mem_nil)⟩⟩) ix (mid, n) h h2, fun ix mid n h => v_lk (P := fun ix q => ∀ j, ix = j + 100000 → sm_ent TX7_.1 (.invokestatic j) q.1 q.2 (sm_mt q.1)) (List.forall_mem_cons.mpr ⟨(fun j (h : 100021 = j + 100000) => (show j = 21 by omega) ▸ vs_X7_100021), List.forall_mem_cons.mpr ⟨(fun j (h : 100025 = j + 100000) => (show j = 25 by omega) ▸ vs_X7_100025), (fun _ h => absurd h List.not_mem_nil)⟩⟩) (ix + 100000) (mid, n) h ix rfl⟩
theorem vf_X8_9 : sm_fok TX8_.1 9 800 := ⟨RX8, TX8, 11, rfl, by decide, rfl, sm_b1 90 rfl rfl⟩
theorem vf_X8_15 : sm_fok TX8_.1 15 801 := ⟨RX8, TX8, 11, rfl, by decide, rfl, sm_b1 91 rfl rfl⟩
theorem vf_X8_18 : sm_fok TX8_.1 18 802 := ⟨RX8, TX8, 11, rfl, by decide, rfl, sm_b1 92 rfl rfl⟩
theorem vf_X8_22 : sm_fok TX8_.1 22 803 := ⟨RX8, TX8, 11, rfl, by decide, rfl, sm_b1 93 rfl rfl⟩
theorem vf_X8_25 : sm_fok TX8_.1 25 804 := ⟨RX8, TX8, 11, rfl, by decide, rfl, sm_b1 94 rfl rfl⟩
theorem vf_X8_28 : sm_fok TX8_.1 28 805 := ⟨RX8, TX8, 11, rfl, by decide, rfl, sm_b1 95 rfl rfl⟩
theorem vf_X8_31 : sm_fok TX8_.1 31 806 := ⟨RX8, TX8, 11, rfl, by decide, rfl, sm_b1 96 rfl rfl⟩
theorem vf_X8_34 : sm_fok TX8_.1 34 807 := ⟨RX8, TX8, 11, rfl, by decide, rfl, sm_b1 97 rfl rfl⟩
theorem vf_X8_37 : sm_fok TX8_.1 37 808 := ⟨RX8, TX8, 11, rfl, by decide, rfl, sm_b1 98 rfl rfl⟩
theorem vf_X8_40 : sm_fok TX8_.1 40 809 := ⟨RX8, TX8, 11, rfl, by decide, rfl, sm_b1 99 rfl rfl⟩
theorem vf_X8_44 : sm_fok TX8_.1 44 810 := ⟨RX8, TX8, 11, rfl, by decide, rfl, sm_b1 100 rfl rfl⟩
theorem vs_X8_47 : sm_ent TX8_.1 (.invokevirtual 47) 92 2 (sm_mt 92) := by
  rw [mt_92]
  exact Or.inr (Or.inr ⟨by decide, by decide, rfl, 0, mok_X8_isHere, 47, rfl, rfl, by decide +kernel, sm_b2 115 rfl rfl, sm_b2 116 rfl rfl, sm_b2 117 rfl rfl⟩)
theorem vs_X8_51 : sm_ent TX8_.1 (.invokevirtual 51) 91 2 (sm_mt 91) := by
  rw [mt_91]
  exact Or.inr (Or.inr ⟨by decide, by decide, rfl, 0, mok_X8_has, 51, rfl, rfl, by decide +kernel, sm_b4 62 rfl rfl, sm_b2 144 rfl rfl, sm_b2 145 rfl rfl⟩)
theorem vs_X8_54 : sm_ent TX8_.1 (.invokevirtual 54) 99 2 (sm_mt 99) := by
  rw [mt_99]
  exact Or.inr (Or.inr ⟨by decide, by decide, rfl, 0, mok_X8_bagOf, 54, rfl, rfl, by decide +kernel, sm_b4 128 rfl rfl, sm_b4 129 rfl rfl, sm_b4 130 rfl rfl⟩)
theorem vs_X8_58 : sm_ent TX8_.1 (.invokevirtual 58) 95 2 (sm_mt 95) := by
  rw [mt_95]
  exact Or.inr (Or.inr ⟨by decide, by decide, rfl, 0, mok_X8_whereOf, 58, rfl, rfl, by decide +kernel, sm_b4 191 rfl rfl, sm_b4 150 rfl rfl, sm_b4 151 rfl rfl⟩)
theorem v_tok_X8 : sm_tok sm_mt TX8_ := ⟨v_lk (List.forall_mem_cons.mpr ⟨vf_X8_9, List.forall_mem_cons.mpr ⟨vf_X8_15, List.forall_mem_cons.mpr ⟨vf_X8_18, List.forall_mem_cons.mpr ⟨vf_X8_22, List.forall_mem_cons.mpr ⟨vf_X8_25, List.forall_mem_cons.mpr ⟨vf_X8_28, List.forall_mem_cons.mpr ⟨vf_X8_31, List.forall_mem_cons.mpr ⟨vf_X8_34, List.forall_mem_cons.mpr ⟨vf_X8_37, List.forall_mem_cons.mpr ⟨vf_X8_40, List.forall_mem_cons.mpr ⟨vf_X8_44, (fun _ h => absurd h List.not_mem_nil)⟩⟩⟩⟩⟩⟩⟩⟩⟩⟩⟩), v_lk ((fun _ h => absurd h List.not_mem_nil)), v_lk ((fun _ h => absurd h List.not_mem_nil)), fun ix mid n h h2 => v_lk (P := fun ix q => ix < 100000 → sm_ent TX8_.1 (.invokevirtual ix) q.1 q.2 (sm_mt q.1)) (List.forall_mem_cons.mpr ⟨(fun _ => vs_X8_47), List.forall_mem_cons.mpr ⟨(fun _ => vs_X8_51), List.forall_mem_cons.mpr ⟨(fun _ => vs_X8_54), List.forall_mem_cons.mpr ⟨(fun _ => vs_X8_58), (fun _ h => absurd h List.not_mem_nil)⟩⟩⟩⟩) ix (mid, n) h h2, fun ix mid n h => v_lk (P := fun ix q => ∀ j, ix = j + 100000 → sm_ent TX8_.1 (.invokestatic j) q.1 q.2 (sm_mt q.1)) (List.forall_mem_cons.mpr ⟨(fun j (h : 47 = j + 100000) => absurd h (by omega)), List.forall_mem_cons.mpr ⟨(fun j (h : 51 = j + 100000) => absurd h (by omega)), List.forall_mem_cons.mpr ⟨(fun j (h : 54 = j + 100000) => absurd h (by omega)), List.forall_mem_cons.mpr ⟨(fun j (h : 58 = j + 100000) => absurd h (by omega)), (fun _ h => absurd h List.not_mem_nil)⟩⟩⟩⟩) (ix + 100000) (mid, n) h ix rfl⟩
theorem vf_X9_10 : sm_fok TX9_.1 10 900 := ⟨RX9, TX9, 12, rfl, by decide, rfl, sm_b2 27 rfl rfl⟩
theorem vf_X9_19 : sm_fok TX9_.1 19 901 := ⟨RX9, TX9, 12, rfl, by decide, rfl, sm_b2 28 rfl rfl⟩
theorem vf_X9_23 : sm_fok TX9_.1 23 902 := ⟨RX9, TX9, 12, rfl, by decide, rfl, sm_b2 29 rfl rfl⟩
theorem vf_X9_29 : sm_fok TX9_.1 29 903 := ⟨RX9, TX9, 12, rfl, by decide, rfl, sm_b2 30 rfl rfl⟩
theorem vf_X9_36 : sm_fok TX9_.1 36 904 := ⟨RX9, TX9, 12, rfl, by decide, rfl, sm_b2 31 rfl rfl⟩
theorem vf_X9_43 : sm_fok TX9_.1 43 905 := ⟨RX9, TX9, 12, rfl, by decide, rfl, sm_b2 32 rfl rfl⟩
theorem vf_X9_52 : sm_fok TX9_.1 52 906 := ⟨RX9, TX9, 12, rfl, by decide, rfl, sm_b2 33 rfl rfl⟩
theorem vf_X9_61 : sm_fok TX9_.1 61 907 := ⟨RX9, TX9, 12, rfl, by decide, rfl, sm_b2 34 rfl rfl⟩
theorem vf_X9_70 : sm_fok TX9_.1 70 908 := ⟨RX9, TX9, 12, rfl, by decide, rfl, sm_b2 35 rfl rfl⟩
theorem vf_X9_74 : sm_fok TX9_.1 74 909 := ⟨RX9, TX9, 12, rfl, by decide, rfl, sm_b2 36 rfl rfl⟩
theorem vf_X9_78 : sm_fok TX9_.1 78 910 := ⟨RX9, TX9, 12, rfl, by decide, rfl, sm_b2 37 rfl rfl⟩
theorem vf_X9_81 : sm_fok TX9_.1 81 911 := ⟨RX9, TX9, 12, rfl, by decide, rfl, sm_b2 38 rfl rfl⟩
theorem vs_X9_85 : sm_ent TX9_.1 (.invokevirtual 85) 68 4 (sm_mt 68) := by
  rw [mt_68]
  exact Or.inr (Or.inr ⟨by decide, by decide, rfl, 0, mok_X5_add, 85, rfl, rfl, by decide +kernel, sm_b2 68 rfl rfl, sm_b2 69 rfl rfl, sm_b2 70 rfl rfl⟩)
theorem vs_X9_89 : sm_ent TX9_.1 (.invokevirtual 89) 71 5 (sm_mt 71) := by
  rw [mt_71]
  exact Or.inr (Or.inr ⟨by decide, by decide, rfl, 0, mok_X5_tellOfTable, 89, rfl, rfl, by decide +kernel, sm_b2 79 rfl rfl, sm_b2 80 rfl rfl, sm_b2 81 rfl rfl⟩)
theorem vs_X9_93 : sm_ent TX9_.1 (.invokevirtual 93) 70 3 (sm_mt 70) := by
  rw [mt_70]
  exact Or.inr (Or.inr ⟨by decide, by decide, rfl, 0, mok_X5_isAnswer, 93, rfl, rfl, by decide +kernel, sm_b2 96 rfl rfl, sm_b2 84 rfl rfl, sm_b2 85 rfl rfl⟩)
theorem vs_X9_97 : sm_ent TX9_.1 (.invokevirtual 97) 73 4 (sm_mt 73) := by
  rw [mt_73]
  exact Or.inr (Or.inr ⟨by decide, by decide, rfl, 0, mok_X5_agree, 97, rfl, rfl, by decide +kernel, sm_b2 97 rfl rfl, sm_b2 98 rfl rfl, sm_b2 99 rfl rfl⟩)
theorem vs_X9_101 : sm_ent TX9_.1 (.invokevirtual 101) 93 2 (sm_mt 93) := by
  rw [mt_93]
  exact Or.inr (Or.inr ⟨by decide, by decide, rfl, 0, mok_X8_isBagHere, 101, rfl, rfl, by decide +kernel, sm_b2 111 rfl rfl, sm_b2 112 rfl rfl, sm_b2 113 rfl rfl⟩)
theorem vs_X9_105 : sm_ent TX9_.1 (.invokevirtual 105) 94 5 (sm_mt 94) := by
  rw [mt_94]
  exact Or.inr (Or.inr ⟨by decide, by decide, rfl, 0, mok_X8_add, 105, rfl, rfl, by decide +kernel, sm_b2 119 rfl rfl, sm_b2 120 rfl rfl, sm_b2 121 rfl rfl⟩)
theorem vs_X9_108 : sm_ent TX9_.1 (.invokevirtual 108) 79 2 (sm_mt 79) := by
  rw [mt_79]
  exact Or.inr (Or.inr ⟨by decide, by decide, rfl, 0, mok_X6_add, 108, rfl, rfl, by decide +kernel, sm_b2 127 rfl rfl, sm_b2 128 rfl rfl, sm_b2 129 rfl rfl⟩)
theorem vs_X9_111 : sm_ent TX9_.1 (.invokevirtual 111) 124 3 (sm_mt 124) := by
  rw [mt_124]
  exact Or.inr (Or.inr ⟨by decide, by decide, rfl, 0, mok_X9_isThere, 111, rfl, rfl, by decide +kernel, sm_b2 135 rfl rfl, sm_b2 137 rfl rfl, sm_p1 1 rfl rfl⟩)
theorem vs_X9_115 : sm_ent TX9_.1 (.invokevirtual 115) 66 2 (sm_mt 66) := by
  rw [mt_66]
  exact Or.inr (Or.inr ⟨by decide, by decide, rfl, 0, mok_X5_has, 115, rfl, rfl, by decide +kernel, sm_b2 147 rfl rfl, sm_b2 148 rfl rfl, sm_b2 149 rfl rfl⟩)
theorem vs_X9_118 : sm_ent TX9_.1 (.invokevirtual 118) 125 2 (sm_mt 125) := by
  rw [mt_125]
  exact Or.inr (Or.inr ⟨by decide, by decide, rfl, 0, mok_X9_rowsOf, 118, rfl, rfl, by decide +kernel, sm_b2 151 rfl rfl, sm_b2 153 rfl rfl, sm_p1 2 rfl rfl⟩)
theorem vs_X9_122 : sm_ent TX9_.1 (.invokevirtual 122) 87 4 (sm_mt 87) := by
  rw [mt_87]
  exact Or.inr (Or.inr ⟨by decide, by decide, rfl, 0, mok_X7_put, 122, rfl, rfl, by decide +kernel, sm_b2 155 rfl rfl, sm_b2 156 rfl rfl, sm_b2 157 rfl rfl⟩)
theorem vs_X9_126 : sm_ent TX9_.1 (.invokevirtual 126) 88 3 (sm_mt 88) := by
  rw [mt_88]
  exact Or.inr (Or.inr ⟨by decide, by decide, rfl, 0, mok_X7_cut, 126, rfl, rfl, by decide +kernel, sm_b2 167 rfl rfl, sm_b2 168 rfl rfl, sm_b2 169 rfl rfl⟩)
theorem vs_X9_129 : sm_ent TX9_.1 (.invokevirtual 129) 86 3 (sm_mt 86) := by
  rw [mt_86]
  exact Or.inr (Or.inr ⟨by decide, by decide, rfl, 0, mok_X7_answerOf, 129, rfl, rfl, by decide +kernel, sm_b2 175 rfl rfl, sm_b2 176 rfl rfl, sm_b2 177 rfl rfl⟩)
theorem vs_X9_133 : sm_ent TX9_.1 (.invokevirtual 133) 84 2 (sm_mt 84) := by
  rw [mt_84]
  exact Or.inr (Or.inr ⟨by decide, by decide, rfl, 0, mok_X7_lengthOf, 133, rfl, rfl, by decide +kernel, sm_b2 183 rfl rfl, sm_b2 184 rfl rfl, sm_b2 185 rfl rfl⟩)
theorem vs_X9_136 : sm_ent TX9_.1 (.invokevirtual 136) 76 2 (sm_mt 76) := by
  rw [mt_76]
  exact Or.inr (Or.inr ⟨by decide, by decide, rfl, 0, mok_X6_has, 136, rfl, rfl, by decide +kernel, sm_b2 139 rfl rfl, sm_b2 140 rfl rfl, sm_b2 141 rfl rfl⟩)
theorem vs_X9_137 : sm_ent TX9_.1 (.invokevirtual 137) 91 2 (sm_mt 91) := by
  rw [mt_91]
  exact Or.inr (Or.inr ⟨by decide, by decide, rfl, 0, mok_X8_has, 137, rfl, rfl, by decide +kernel, sm_b2 143 rfl rfl, sm_b2 144 rfl rfl, sm_b2 145 rfl rfl⟩)
theorem vs_X9_138 : sm_ent TX9_.1 (.invokevirtual 138) 129 3 (sm_mt 129) := by
  rw [mt_129]
  exact Or.inr (Or.inr ⟨by decide, by decide, rfl, 0, mok_X9_arePair, 138, rfl, rfl, by decide +kernel, sm_b2 191 rfl rfl, sm_b2 193 rfl rfl, sm_p1 3 rfl rfl⟩)
theorem vs_X9_141 : sm_ent TX9_.1 (.invokevirtual 141) 57 3 (sm_mt 57) := by
  rw [mt_57]
  exact Or.inr (Or.inr ⟨by decide, by decide, rfl, 0, mok_X4_isFit, 141, rfl, rfl, by decide +kernel, sm_b2 195 rfl rfl, sm_b2 196 rfl rfl, sm_b2 197 rfl rfl⟩)
theorem vs_X9_144 : sm_ent TX9_.1 (.invokevirtual 144) 56 3 (sm_mt 56) := by
  rw [mt_56]
  exact Or.inr (Or.inr ⟨by decide, by decide, rfl, 0, mok_X4_firstClash, 144, rfl, rfl, by decide +kernel, sm_b2 213 rfl rfl, sm_b2 200 rfl rfl, sm_b2 201 rfl rfl⟩)
theorem vs_X9_147 : sm_ent TX9_.1 (.invokevirtual 147) 62 3 (sm_mt 62) := by
  rw [mt_62]
  exact Or.inr (Or.inr ⟨by decide, by decide, rfl, 0, mok_X4_strengthOf, 147, rfl, rfl, by decide +kernel, sm_b2 218 rfl rfl, sm_b2 219 rfl rfl, sm_b2 220 rfl rfl⟩)
theorem vs_X9_150 : sm_ent TX9_.1 (.invokevirtual 150) 58 2 (sm_mt 58) := by
  rw [mt_58]
  exact Or.inr (Or.inr ⟨by decide, by decide, rfl, 0, mok_X4_fitSet, 150, rfl, rfl, by decide +kernel, sm_b3 9 rfl rfl, sm_b3 10 rfl rfl, sm_b3 11 rfl rfl⟩)
theorem vs_X9_164 : sm_ent TX9_.1 (.invokevirtual 164) 136 2 (sm_mt 136) := by
  rw [mt_136]
  exact Or.inr (Or.inr ⟨by decide, by decide, rfl, 0, mok_X9_matchGroup, 164, rfl, rfl, by decide +kernel, sm_b3 30 rfl rfl, sm_b3 32 rfl rfl, sm_p1 5 rfl rfl⟩)
theorem vs_X9_167 : sm_ent TX9_.1 (.invokevirtual 167) 54 2 (sm_mt 54) := by
  rw [mt_54]
  exact Or.inr (Or.inr ⟨by decide, by decide, rfl, 0, mok_X3_givenTo, 167, rfl, rfl, by decide +kernel, sm_b3 111 rfl rfl, sm_b3 112 rfl rfl, sm_b3 113 rfl rfl⟩)
theorem vs_X9_170 : sm_ent TX9_.1 (.invokevirtual 170) 53 1 (sm_mt 53) := by
  rw [mt_53]
  exact Or.inr (Or.inr ⟨by decide, by decide, rfl, 0, mok_X3_strengthSum, 170, rfl, rfl, by decide +kernel, sm_b3 123 rfl rfl, sm_b3 124 rfl rfl, sm_b3 125 rfl rfl⟩)
theorem vs_X9_174 : sm_ent TX9_.1 (.invokevirtual 174) 63 3 (sm_mt 63) := by
  rw [mt_63]
  exact Or.inr (Or.inr ⟨by decide, by decide, rfl, 0, mok_X4_countAsStrong, 174, rfl, rfl, by decide +kernel, sm_b3 136 rfl rfl, sm_b3 137 rfl rfl, sm_b3 138 rfl rfl⟩)
theorem vs_X9_177 : sm_ent TX9_.1 (.invokevirtual 177) 77 2 (sm_mt 77) := by
  rw [mt_77]
  exact Or.inr (Or.inr ⟨by decide, by decide, rfl, 0, mok_X6_isOpen, 177, rfl, rfl, by decide +kernel, sm_b3 34 rfl rfl, sm_b3 35 rfl rfl, sm_b3 36 rfl rfl⟩)
theorem vs_X9_180 : sm_ent TX9_.1 (.invokevirtual 180) 49 2 (sm_mt 49) := by
  rw [mt_49]
  exact Or.inr (Or.inr ⟨by decide, by decide, rfl, 0, mok_X3_gather, 180, rfl, rfl, by decide +kernel, sm_b3 39 rfl rfl, sm_b3 40 rfl rfl, sm_b3 41 rfl rfl⟩)
theorem vs_X9_184 : sm_ent TX9_.1 (.invokevirtual 184) 48 1 (sm_mt 48) := by
  rw [mt_48]
  exact Or.inr (Or.inr ⟨by decide, by decide, rfl, 0, mok_X3_isTooLarge, 184, rfl, rfl, by decide +kernel, sm_b3 58 rfl rfl, sm_b3 59 rfl rfl, sm_b3 60 rfl rfl⟩)
theorem vs_X9_188 : sm_ent TX9_.1 (.invokevirtual 188) 52 1 (sm_mt 52) := by
  rw [mt_52]
  exact Or.inr (Or.inr ⟨by decide, by decide, rfl, 0, mok_X3_findBestWay, 188, rfl, rfl, by decide +kernel, sm_b3 62 rfl rfl, sm_b3 63 rfl rfl, sm_b3 64 rfl rfl⟩)
theorem vs_X9_191 : sm_ent TX9_.1 (.invokevirtual 191) 46 1 (sm_mt 46) := by
  rw [mt_46]
  exact Or.inr (Or.inr ⟨by decide, by decide, rfl, 0, mok_X3_reportCount, 191, rfl, rfl, by decide +kernel, sm_b3 147 rfl rfl, sm_b3 148 rfl rfl, sm_b3 149 rfl rfl⟩)
theorem vs_X9_194 : sm_ent TX9_.1 (.invokevirtual 194) 47 1 (sm_mt 47) := by
  rw [mt_47]
  exact Or.inr (Or.inr ⟨by decide, by decide, rfl, 0, mok_X3_thingCount, 194, rfl, rfl, by decide +kernel, sm_b3 151 rfl rfl, sm_b3 152 rfl rfl, sm_b3 153 rfl rfl⟩)
theorem vs_X9_197 : sm_ent TX9_.1 (.invokevirtual 197) 2 3 (sm_mt 2) := by
  rw [mt_2]
  exact Or.inr (Or.inr ⟨by decide, by decide, rfl, 0, mok_X0_isAlike, 197, rfl, rfl, by decide +kernel, sm_b3 159 rfl rfl, sm_b3 160 rfl rfl, sm_b3 161 rfl rfl⟩)
theorem vs_X9_200 : sm_ent TX9_.1 (.invokevirtual 200) 3 3 (sm_mt 3) := by
  rw [mt_3]
  exact Or.inr (Or.inr ⟨by decide, by decide, rfl, 0, mok_X0_countClasses, 200, rfl, rfl, by decide +kernel, sm_b3 172 rfl rfl, sm_b3 173 rfl rfl, sm_b3 174 rfl rfl⟩)
theorem vs_X9_204 : sm_ent TX9_.1 (.invokevirtual 204) 5 2 (sm_mt 5) := by
  rw [mt_5]
  exact Or.inr (Or.inr ⟨by decide, by decide, rfl, 0, mok_X0_mostParting, 204, rfl, rfl, by decide +kernel, sm_b3 185 rfl rfl, sm_b3 186 rfl rfl, sm_b3 187 rfl rfl⟩)
theorem vs_X9_207 : sm_ent TX9_.1 (.invokevirtual 207) 6 2 (sm_mt 6) := by
  rw [mt_6]
  exact Or.inr (Or.inr ⟨by decide, by decide, rfl, 0, mok_X0_neededFor, 207, rfl, rfl, by decide +kernel, sm_b3 194 rfl rfl, sm_b3 195 rfl rfl, sm_b3 196 rfl rfl⟩)
theorem vs_X9_210 : sm_ent TX9_.1 (.invokevirtual 210) 92 2 (sm_mt 92) := by
  rw [mt_92]
  exact Or.inr (Or.inr ⟨by decide, by decide, rfl, 0, mok_X8_isHere, 210, rfl, rfl, by decide +kernel, sm_b3 239 rfl rfl, sm_b2 116 rfl rfl, sm_b2 117 rfl rfl⟩)
theorem vs_X9_213 : sm_ent TX9_.1 (.invokevirtual 213) 38 3 (sm_mt 38) := by
  rw [mt_38]
  exact Or.inr (Or.inr ⟨by decide, by decide, rfl, 0, mok_X2_isClaimedBy, 213, rfl, rfl, by decide +kernel, sm_b4 0 rfl rfl, sm_b4 1 rfl rfl, sm_b4 2 rfl rfl⟩)
theorem vs_X9_216 : sm_ent TX9_.1 (.invokevirtual 216) 29 1 (sm_mt 29) := by
  rw [mt_29]
  exact Or.inr (Or.inr ⟨by decide, by decide, rfl, 0, mok_X2_isFull, 216, rfl, rfl, by decide +kernel, sm_b4 8 rfl rfl, sm_b4 9 rfl rfl, sm_b4 10 rfl rfl⟩)
theorem vs_X9_219 : sm_ent TX9_.1 (.invokevirtual 219) 37 3 (sm_mt 37) := by
  rw [mt_37]
  exact Or.inr (Or.inr ⟨by decide, by decide, rfl, 0, mok_X2_add, 219, rfl, rfl, by decide +kernel, sm_b4 12 rfl rfl, sm_b4 13 rfl rfl, sm_b4 14 rfl rfl⟩)
theorem vs_X9_221 : sm_ent TX9_.1 (.invokevirtual 221) 30 2 (sm_mt 30) := by
  rw [mt_30]
  exact Or.inr (Or.inr ⟨by decide, by decide, rfl, 0, mok_X2_isStanding, 221, rfl, rfl, by decide +kernel, sm_b4 25 rfl rfl, sm_b4 5 rfl rfl, sm_b4 6 rfl rfl⟩)
theorem vs_X9_224 : sm_ent TX9_.1 (.invokevirtual 224) 32 2 (sm_mt 32) := by
  rw [mt_32]
  exact Or.inr (Or.inr ⟨by decide, by decide, rfl, 0, mok_X2_reportOf, 224, rfl, rfl, by decide +kernel, sm_b4 26 rfl rfl, sm_b4 27 rfl rfl, sm_b4 28 rfl rfl⟩)
theorem vs_X9_227 : sm_ent TX9_.1 (.invokevirtual 227) 33 2 (sm_mt 33) := by
  rw [mt_33]
  exact Or.inr (Or.inr ⟨by decide, by decide, rfl, 0, mok_X2_thingOf, 227, rfl, rfl, by decide +kernel, sm_b4 34 rfl rfl, sm_b4 35 rfl rfl, sm_b4 36 rfl rfl⟩)
theorem vs_X9_230 : sm_ent TX9_.1 (.invokevirtual 230) 42 3 (sm_mt 42) := by
  rw [mt_42]
  exact Or.inr (Or.inr ⟨by decide, by decide, rfl, 0, mok_X2_finish, 230, rfl, rfl, by decide +kernel, sm_b4 38 rfl rfl, sm_b4 39 rfl rfl, sm_b4 40 rfl rfl⟩)
theorem vs_X9_234 : sm_ent TX9_.1 (.invokevirtual 234) 41 2 (sm_mt 41) := by
  rw [mt_41]
  exact Or.inr (Or.inr ⟨by decide, by decide, rfl, 0, mok_X2_setProved, 234, rfl, rfl, by decide +kernel, sm_b4 42 rfl rfl, sm_b4 43 rfl rfl, sm_b4 44 rfl rfl⟩)
theorem vs_X9_237 : sm_ent TX9_.1 (.invokevirtual 237) 31 2 (sm_mt 31) := by
  rw [mt_31]
  exact Or.inr (Or.inr ⟨by decide, by decide, rfl, 0, mok_X2_stateOf, 237, rfl, rfl, by decide +kernel, sm_b4 50 rfl rfl, sm_b4 51 rfl rfl, sm_b4 52 rfl rfl⟩)
theorem vs_X9_240 : sm_ent TX9_.1 (.invokevirtual 240) 39 3 (sm_mt 39) := by
  rw [mt_39]
  exact Or.inr (Or.inr ⟨by decide, by decide, rfl, 0, mok_X2_isProvedAhead, 240, rfl, rfl, by decide +kernel, sm_b4 54 rfl rfl, sm_b4 55 rfl rfl, sm_b4 56 rfl rfl⟩)
theorem vs_X9_243 : sm_ent TX9_.1 (.invokevirtual 243) 96 2 (sm_mt 96) := by
  rw [mt_96]
  exact Or.inr (Or.inr ⟨by decide, by decide, rfl, 0, mok_X8_kindOf, 243, rfl, rfl, by decide +kernel, sm_b4 58 rfl rfl, sm_b4 59 rfl rfl, sm_b4 60 rfl rfl⟩)
theorem vs_X9_246 : sm_ent TX9_.1 (.invokevirtual 246) 40 2 (sm_mt 40) := by
  rw [mt_40]
  exact Or.inr (Or.inr ⟨by decide, by decide, rfl, 0, mok_X2_isFirstAsked, 246, rfl, rfl, by decide +kernel, sm_b4 63 rfl rfl, sm_b4 64 rfl rfl, sm_b4 65 rfl rfl⟩)
theorem vs_X9_249 : sm_ent TX9_.1 (.invokevirtual 249) 147 2 (sm_mt 147) := by
  rw [mt_147]
  exact Or.inr (Or.inr ⟨by decide, by decide, rfl, 0, mok_X9_shut, 249, rfl, rfl, by decide +kernel, sm_b4 67 rfl rfl, sm_b4 69 rfl rfl, sm_p2 7 rfl rfl⟩)
theorem vs_X9_252 : sm_ent TX9_.1 (.invokevirtual 252) 78 2 (sm_mt 78) := by
  rw [mt_78]
  exact Or.inr (Or.inr ⟨by decide, by decide, rfl, 0, mok_X6_personOf, 252, rfl, rfl, by decide +kernel, sm_b4 80 rfl rfl, sm_b4 81 rfl rfl, sm_b4 82 rfl rfl⟩)
theorem vs_X9_255 : sm_ent TX9_.1 (.invokevirtual 255) 155 4 (sm_mt 155) := by
  rw [mt_155]
  exact Or.inr (Or.inr ⟨by decide, by decide, rfl, 0, mok_X9_sendWithContents, 255, rfl, rfl, by decide +kernel, sm_b4 84 rfl rfl, sm_b4 86 rfl rfl, sm_p2 8 rfl rfl⟩)
theorem vs_X9_258 : sm_ent TX9_.1 (.invokevirtual 258) 80 2 (sm_mt 80) := by
  rw [mt_80]
  exact Or.inr (Or.inr ⟨by decide, by decide, rfl, 0, mok_X6_shut, 258, rfl, rfl, by decide +kernel, sm_b4 71 rfl rfl, sm_b4 72 rfl rfl, sm_b4 73 rfl rfl⟩)
theorem vs_X9_259 : sm_ent TX9_.1 (.invokevirtual 259) 43 3 (sm_mt 43) := by
  rw [mt_43]
  exact Or.inr (Or.inr ⟨by decide, by decide, rfl, 0, mok_X2_finishAllOf, 259, rfl, rfl, by decide +kernel, sm_b4 75 rfl rfl, sm_b4 76 rfl rfl, sm_b4 77 rfl rfl⟩)
theorem vs_X9_262 : sm_ent TX9_.1 (.invokevirtual 262) 28 2 (sm_mt 28) := by
  rw [mt_28]
  exact Or.inr (Or.inr ⟨by decide, by decide, rfl, 0, mok_X2_has, 262, rfl, rfl, by decide +kernel, sm_b4 212 rfl rfl, sm_b4 31 rfl rfl, sm_b4 32 rfl rfl⟩)
theorem vs_X9_272 : sm_ent TX9_.1 (.invokevirtual 272) 106 3 (sm_mt 106) := by
  rw [mt_106]
  exact Or.inr (Or.inr ⟨by decide, by decide, rfl, 0, mok_X8_holds, 272, rfl, rfl, by decide +kernel, sm_b4 124 rfl rfl, sm_b4 125 rfl rfl, sm_b4 126 rfl rfl⟩)
theorem vs_X9_275 : sm_ent TX9_.1 (.invokevirtual 275) 105 3 (sm_mt 105) := by
  rw [mt_105]
  exact Or.inr (Or.inr ⟨by decide, by decide, rfl, 0, mok_X8_moveTo, 275, rfl, rfl, by decide +kernel, sm_b4 108 rfl rfl, sm_b4 109 rfl rfl, sm_b4 110 rfl rfl⟩)
theorem vs_X9_280 : sm_ent TX9_.1 (.invokevirtual 280) 95 2 (sm_mt 95) := by
  rw [mt_95]
  exact Or.inr (Or.inr ⟨by decide, by decide, rfl, 0, mok_X8_whereOf, 280, rfl, rfl, by decide +kernel, sm_b4 149 rfl rfl, sm_b4 150 rfl rfl, sm_b4 151 rfl rfl⟩)
theorem vs_X9_283 : sm_ent TX9_.1 (.invokevirtual 283) 99 2 (sm_mt 99) := by
  rw [mt_99]
  exact Or.inr (Or.inr ⟨by decide, by decide, rfl, 0, mok_X8_bagOf, 283, rfl, rfl, by decide +kernel, sm_b5 48 rfl rfl, sm_b4 129 rfl rfl, sm_b4 130 rfl rfl⟩)
theorem vs_X9_286 : sm_ent TX9_.1 (.invokevirtual 286) 100 2 (sm_mt 100) := by
  rw [mt_100]
  exact Or.inr (Or.inr ⟨by decide, by decide, rfl, 0, mok_X8_ageOf, 286, rfl, rfl, by decide +kernel, sm_b5 49 rfl rfl, sm_b5 50 rfl rfl, sm_b5 51 rfl rfl⟩)
theorem vs_X9_289 : sm_ent TX9_.1 (.invokevirtual 289) 97 2 (sm_mt 97) := by
  rw [mt_97]
  exact Or.inr (Or.inr ⟨by decide, by decide, rfl, 0, mok_X8_finderOf, 289, rfl, rfl, by decide +kernel, sm_b4 165 rfl rfl, sm_b4 166 rfl rfl, sm_b4 167 rfl rfl⟩)
theorem vs_X9_292 : sm_ent TX9_.1 (.invokevirtual 292) 101 2 (sm_mt 101) := by
  rw [mt_101]
  exact Or.inr (Or.inr ⟨by decide, by decide, rfl, 0, mok_X8_takerOf, 292, rfl, rfl, by decide +kernel, sm_b5 53 rfl rfl, sm_b5 54 rfl rfl, sm_b5 55 rfl rfl⟩)
theorem vs_X9_295 : sm_ent TX9_.1 (.invokevirtual 295) 102 2 (sm_mt 102) := by
  rw [mt_102]
  exact Or.inr (Or.inr ⟨by decide, by decide, rfl, 0, mok_X8_outDayOf, 295, rfl, rfl, by decide +kernel, sm_b5 57 rfl rfl, sm_b5 58 rfl rfl, sm_b5 59 rfl rfl⟩)
theorem vs_X9_298 : sm_ent TX9_.1 (.invokevirtual 298) 103 2 (sm_mt 103) := by
  rw [mt_103]
  exact Or.inr (Or.inr ⟨by decide, by decide, rfl, 0, mok_X8_whyOf, 298, rfl, rfl, by decide +kernel, sm_b5 61 rfl rfl, sm_b5 62 rfl rfl, sm_b5 63 rfl rfl⟩)
theorem vs_X9_301 : sm_ent TX9_.1 (.invokevirtual 301) 108 2 (sm_mt 108) := by
  rw [mt_108]
  exact Or.inr (Or.inr ⟨by decide, by decide, rfl, 0, mok_X8_countInside, 301, rfl, rfl, by decide +kernel, sm_b5 65 rfl rfl, sm_b5 66 rfl rfl, sm_b5 67 rfl rfl⟩)
theorem vs_X9_304 : sm_ent TX9_.1 (.invokevirtual 304) 34 2 (sm_mt 34) := by
  rw [mt_34]
  exact Or.inr (Or.inr ⟨by decide, by decide, rfl, 0, mok_X2_standingOn, 304, rfl, rfl, by decide +kernel, sm_b4 104 rfl rfl, sm_b4 105 rfl rfl, sm_b4 106 rfl rfl⟩)
theorem vs_X9_309 : sm_ent TX9_.1 (.invokevirtual 309) 110 1 (sm_mt 110) := by
  rw [mt_110]
  exact Or.inr (Or.inr ⟨by decide, by decide, rfl, 0, mok_X8_goneCount, 309, rfl, rfl, by decide +kernel, sm_b4 140 rfl rfl, sm_b4 141 rfl rfl, sm_b4 142 rfl rfl⟩)
theorem vs_X9_312 : sm_ent TX9_.1 (.invokevirtual 312) 153 1 (sm_mt 153) := by
  rw [mt_153]
  exact Or.inr (Or.inr ⟨by decide, by decide, rfl, 0, mok_X9_passDay, 312, rfl, rfl, by decide +kernel, sm_b4 144 rfl rfl, sm_b4 146 rfl rfl, sm_p2 10 rfl rfl⟩)
theorem vs_X9_315 : sm_ent TX9_.1 (.invokevirtual 315) 90 1 (sm_mt 90) := by
  rw [mt_90]
  exact Or.inr (Or.inr ⟨by decide, by decide, rfl, 0, mok_X8_size, 315, rfl, rfl, by decide +kernel, sm_b4 148 rfl rfl, sm_b2 232 rfl rfl, sm_b2 233 rfl rfl⟩)
theorem vs_X9_318 : sm_ent TX9_.1 (.invokevirtual 318) 154 2 (sm_mt 154) := by
  rw [mt_154]
  exact Or.inr (Or.inr ⟨by decide, by decide, rfl, 0, mok_X9_ripen, 318, rfl, rfl, by decide +kernel, sm_b4 153 rfl rfl, sm_b4 155 rfl rfl, sm_p2 11 rfl rfl⟩)
theorem vs_X9_321 : sm_ent TX9_.1 (.invokevirtual 321) 104 2 (sm_mt 104) := by
  rw [mt_104]
  exact Or.inr (Or.inr ⟨by decide, by decide, rfl, 0, mok_X8_growOlder, 321, rfl, rfl, by decide +kernel, sm_b4 157 rfl rfl, sm_b4 158 rfl rfl, sm_b4 159 rfl rfl⟩)
theorem vs_X9_324 : sm_ent TX9_.1 (.invokevirtual 324) 98 2 (sm_mt 98) := by
  rw [mt_98]
  exact Or.inr (Or.inr ⟨by decide, by decide, rfl, 0, mok_X8_isWantedByFinder, 324, rfl, rfl, by decide +kernel, sm_b4 161 rfl rfl, sm_b4 162 rfl rfl, sm_b4 163 rfl rfl⟩)
theorem vs_X9_327 : sm_ent TX9_.1 (.invokevirtual 327) 156 4 (sm_mt 156) := by
  rw [mt_156]
  exact Or.inr (Or.inr ⟨by decide, by decide, rfl, 0, mok_X9_sendOut, 327, rfl, rfl, by decide +kernel, sm_b4 88 rfl rfl, sm_b4 90 rfl rfl, sm_p2 9 rfl rfl⟩)
theorem vs_X9_330 : sm_ent TX9_.1 (.invokevirtual 330) 107 2 (sm_mt 107) := by
  rw [mt_107]
  exact Or.inr (Or.inr ⟨by decide, by decide, rfl, 0, mok_X8_firstInside, 330, rfl, rfl, by decide +kernel, sm_b4 100 rfl rfl, sm_b4 101 rfl rfl, sm_b4 102 rfl rfl⟩)
theorem vs_X9_333 : sm_ent TX9_.1 (.invokevirtual 333) 44 3 (sm_mt 44) := by
  rw [mt_44]
  exact Or.inr (Or.inr ⟨by decide, by decide, rfl, 0, mok_X2_finishAllOn, 333, rfl, rfl, by decide +kernel, sm_b4 92 rfl rfl, sm_b4 93 rfl rfl, sm_b4 94 rfl rfl⟩)
theorem vs_X9_336 : sm_ent TX9_.1 (.invokevirtual 336) 109 5 (sm_mt 109) := by
  rw [mt_109]
  exact Or.inr (Or.inr ⟨by decide, by decide, rfl, 0, mok_X8_leave, 336, rfl, rfl, by decide +kernel, sm_b4 96 rfl rfl, sm_b4 97 rfl rfl, sm_b4 98 rfl rfl⟩)
theorem vs_X9_340 : sm_ent TX9_.1 (.invokevirtual 340) 65 1 (sm_mt 65) := by
  rw [mt_65]
  exact Or.inr (Or.inr ⟨by decide, by decide, rfl, 0, mok_X5_size, 340, rfl, rfl, by decide +kernel, sm_b4 173 rfl rfl, sm_b3 164 rfl rfl, sm_b3 165 rfl rfl⟩)
theorem vs_X9_341 : sm_ent TX9_.1 (.invokevirtual 341) 75 1 (sm_mt 75) := by
  rw [mt_75]
  exact Or.inr (Or.inr ⟨by decide, by decide, rfl, 0, mok_X6_size, 341, rfl, rfl, by decide +kernel, sm_b4 174 rfl rfl, sm_b3 45 rfl rfl, sm_b3 46 rfl rfl⟩)
theorem vs_X9_342 : sm_ent TX9_.1 (.invokevirtual 342) 81 1 (sm_mt 81) := by
  rw [mt_81]
  exact Or.inr (Or.inr ⟨by decide, by decide, rfl, 0, mok_X6_openCount, 342, rfl, rfl, by decide +kernel, sm_b4 175 rfl rfl, sm_b4 176 rfl rfl, sm_b4 177 rfl rfl⟩)
theorem vs_X9_345 : sm_ent TX9_.1 (.invokevirtual 345) 27 1 (sm_mt 27) := by
  rw [mt_27]
  exact Or.inr (Or.inr ⟨by decide, by decide, rfl, 0, mok_X2_size, 345, rfl, rfl, by decide +kernel, sm_b4 179 rfl rfl, sm_b4 180 rfl rfl, sm_b4 181 rfl rfl⟩)
theorem vs_X9_346 : sm_ent TX9_.1 (.invokevirtual 346) 36 1 (sm_mt 36) := by
  rw [mt_36]
  exact Or.inr (Or.inr ⟨by decide, by decide, rfl, 0, mok_X2_standingCount, 346, rfl, rfl, by decide +kernel, sm_b4 183 rfl rfl, sm_b4 184 rfl rfl, sm_b4 185 rfl rfl⟩)
theorem vs_X9_349 : sm_ent TX9_.1 (.invokevirtual 349) 112 2 (sm_mt 112) := by
  rw [mt_112]
  exact Or.inr (Or.inr ⟨by decide, by decide, rfl, 0, mok_X8_countPlaced, 349, rfl, rfl, by decide +kernel, sm_b4 187 rfl rfl, sm_b4 188 rfl rfl, sm_b4 189 rfl rfl⟩)
theorem vs_X9_352 : sm_ent TX9_.1 (.invokevirtual 352) 113 2 (sm_mt 113) := by
  rw [mt_113]
  exact Or.inr (Or.inr ⟨by decide, by decide, rfl, 0, mok_X8_countWhy, 352, rfl, rfl, by decide +kernel, sm_b4 192 rfl rfl, sm_b4 193 rfl rfl, sm_b4 194 rfl rfl⟩)
theorem vs_X9_355 : sm_ent TX9_.1 (.invokevirtual 355) 111 2 (sm_mt 111) := by
  rw [mt_111]
  exact Or.inr (Or.inr ⟨by decide, by decide, rfl, 0, mok_X8_goneAt, 355, rfl, rfl, by decide +kernel, sm_b4 200 rfl rfl, sm_b4 201 rfl rfl, sm_b4 202 rfl rfl⟩)
theorem vs_X9_100154 : sm_ent TX9_.1 (.invokestatic 154) 227 1 (sm_mt 227) := by
  rw [mt_227]
  exact Or.inr (Or.inr ⟨by decide, by decide, rfl, 1, mok_J13_bitCount_95d88, 154, rfl, rfl, by decide +kernel, sm_b3 13 rfl rfl, sm_b3 14 rfl rfl⟩)
theorem vs_X9_100160 : sm_ent TX9_.1 (.invokestatic 160) 132 2 (sm_mt 132) := by
  rw [mt_132]
  exact Or.inr (Or.inr ⟨by decide, by decide, rfl, 1, mok_X9_isIn, 160, rfl, rfl, by decide +kernel, sm_b3 23 rfl rfl, sm_b3 24 rfl rfl⟩)
theorem v_tok_X9 : sm_tok sm_mt TX9_ := ⟨v_lk (List.forall_mem_cons.mpr ⟨vf_X9_10, List.forall_mem_cons.mpr ⟨vf_X9_19, List.forall_mem_cons.mpr ⟨vf_X9_23, List.forall_mem_cons.mpr ⟨vf_X9_29, List.forall_mem_cons.mpr ⟨vf_X9_36, List.forall_mem_cons.mpr ⟨vf_X9_43, List.forall_mem_cons.mpr ⟨vf_X9_52, List.forall_mem_cons.mpr ⟨vf_X9_61, List.forall_mem_cons.mpr ⟨vf_X9_70, List.forall_mem_cons.mpr ⟨vf_X9_74, List.forall_mem_cons.mpr ⟨vf_X9_78, List.forall_mem_cons.mpr ⟨vf_X9_81, (fun _ h => absurd h List.not_mem_nil)⟩⟩⟩⟩⟩⟩⟩⟩⟩⟩⟩⟩), v_lk ((fun _ h => absurd h List.not_mem_nil)), v_lk ((fun _ h => absurd h List.not_mem_nil)), fun ix mid n h h2 => v_lk (P := fun ix q => ix < 100000 → sm_ent TX9_.1 (.invokevirtual ix) q.1 q.2 (sm_mt q.1)) (List.forall_mem_cons.mpr ⟨(fun _ => vs_X9_85), List.forall_mem_cons.mpr ⟨(fun _ => vs_X9_89), List.forall_mem_cons.mpr ⟨(fun _ => vs_X9_93), List.forall_mem_cons.mpr ⟨(fun _ => vs_X9_97), List.forall_mem_cons.mpr ⟨(fun _ => vs_X9_101), List.forall_mem_cons.mpr ⟨(fun _ => vs_X9_105), List.forall_mem_cons.mpr ⟨(fun _ => vs_X9_108), List.forall_mem_cons.mpr ⟨(fun _ => vs_X9_111), List.forall_mem_cons.mpr ⟨(fun _ => vs_X9_115), List.forall_mem_cons.mpr ⟨(fun _ => vs_X9_118), List.forall_mem_cons.mpr ⟨(fun _ => vs_X9_122), List.forall_mem_cons.mpr ⟨(fun _ => vs_X9_126), List.forall_mem_cons.mpr ⟨(fun _ => vs_X9_129), List.forall_mem_cons.mpr ⟨(fun _ => vs_X9_133), List.forall_mem_cons.mpr ⟨(fun _ => vs_X9_136), List.forall_mem_cons.mpr ⟨(fun _ => vs_X9_137), List.forall_mem_cons.mpr ⟨(fun _ => vs_X9_138), List.forall_mem_cons.mpr ⟨(fun _ => vs_X9_141), List.forall_mem_cons.mpr ⟨(fun _ => vs_X9_144), List.forall_mem_cons.mpr ⟨(fun _ => vs_X9_147), List.forall_mem_cons.mpr ⟨(fun _ => vs_X9_150), List.forall_mem_cons.mpr ⟨(fun _ => vs_X9_164), List.forall_mem_cons.mpr ⟨(fun _ => vs_X9_167), List.forall_mem_cons.mpr ⟨(fun _ => vs_X9_170), List.forall_mem_cons.mpr ⟨(fun _ => vs_X9_174), List.forall_mem_cons.mpr ⟨(fun _ => vs_X9_177), List.forall_mem_cons.mpr ⟨(fun _ => vs_X9_180), List.forall_mem_cons.mpr ⟨(fun _ => vs_X9_184), List.forall_mem_cons.mpr ⟨(fun _ => vs_X9_188), List.forall_mem_cons.mpr ⟨(fun _ => vs_X9_191), List.forall_mem_cons.mpr ⟨(fun _ => vs_X9_194), List.forall_mem_cons.mpr ⟨(fun _ => vs_X9_197), List.forall_mem_cons.mpr ⟨(fun _ => vs_X9_200), List.forall_mem_cons.mpr ⟨(fun _ => vs_X9_204), List.forall_mem_cons.mpr ⟨(fun _ => vs_X9_207), List.forall_mem_cons.mpr ⟨(fun _ => vs_X9_210), List.forall_mem_cons.mpr ⟨(fun _ => vs_X9_213), List.forall_mem_cons.mpr ⟨(fun _ => vs_X9_216), List.forall_mem_cons.mpr ⟨(fun _ => vs_X9_219), List.forall_mem_cons.mpr ⟨(fun _ => vs_X9_221), List.forall_mem_cons.mpr ⟨(fun _ => vs_X9_224), List.forall_mem_cons.mpr ⟨(fun _ => vs_X9_227), List.forall_mem_cons.mpr ⟨(fun _ => vs_X9_230), List.forall_mem_cons.mpr ⟨(fun _ => vs_X9_234), List.forall_mem_cons.mpr ⟨(fun _ => vs_X9_237), List.forall_mem_cons.mpr ⟨(fun _ => vs_X9_240), List.forall_mem_cons.mpr ⟨(fun _ => vs_X9_243), List.forall_mem_cons.mpr ⟨(fun _ => vs_X9_246), List.forall_mem_cons.mpr ⟨(fun _ => vs_X9_249), List.forall_mem_cons.mpr ⟨(fun _ => vs_X9_252), List.forall_mem_cons.mpr ⟨(fun _ => vs_X9_255), List.forall_mem_cons.mpr ⟨(fun _ => vs_X9_258), List.forall_mem_cons.mpr ⟨(fun _ => vs_X9_259), List.forall_mem_cons.mpr ⟨(fun _ => vs_X9_262), List.forall_mem_cons.mpr ⟨(fun _ => vs_X9_272), List.forall_mem_cons.mpr ⟨(fun _ => vs_X9_275), List.forall_mem_cons.mpr ⟨(fun _ => vs_X9_280), List.forall_mem_cons.mpr ⟨(fun _ => vs_X9_283), List.forall_mem_cons.mpr ⟨(fun _ => vs_X9_286), List.forall_mem_cons.mpr ⟨(fun _ => vs_X9_289), List.forall_mem_cons.mpr ⟨(fun _ => vs_X9_292), List.forall_mem_cons.mpr ⟨(fun _ => vs_X9_295), List.forall_mem_cons.mpr ⟨(fun _ => vs_X9_298), List.forall_mem_cons.mpr ⟨(fun _ => vs_X9_301), List.forall_mem_cons.mpr ⟨(fun _ => vs_X9_304), List.forall_mem_cons.mpr ⟨(fun _ => vs_X9_309), List.forall_mem_cons.mpr ⟨(fun _ => vs_X9_312), List.forall_mem_cons.mpr ⟨(fun _ => vs_X9_315), List.forall_mem_cons.mpr ⟨(fun _ => vs_X9_318), List.forall_mem_cons.mpr ⟨(fun _ => vs_X9_321), List.forall_mem_cons.mpr ⟨(fun _ => vs_X9_324), List.forall_mem_cons.mpr ⟨(fun _ => vs_X9_327), List.forall_mem_cons.mpr ⟨(fun _ => vs_X9_330), List.forall_mem_cons.mpr ⟨(fun _ => vs_X9_333), List.forall_mem_cons.mpr ⟨(fun _ => vs_X9_336), List.forall_mem_cons.mpr ⟨(fun _ => vs_X9_340), List.forall_mem_cons.mpr ⟨(fun _ => vs_X9_341), List.forall_mem_cons.mpr ⟨(fun _ => vs_X9_342), List.forall_mem_cons.mpr ⟨(fun _ => vs_X9_345), List.forall_mem_cons.mpr ⟨(fun _ => vs_X9_346), List.forall_mem_cons.mpr ⟨(fun _ => vs_X9_349), List.forall_mem_cons.mpr ⟨(fun _ => vs_X9_352), List.forall_mem_cons.mpr ⟨(fun _ => vs_X9_355), List.forall_mem_cons.mpr ⟨(fun (h : 100154 < 100000) => absurd h (by omega)), List.forall_mem_cons.mpr ⟨(fun (h : 100160 < 100000) => absurd h (by omega)), (fun _ h => absurd h List.not_mem_nil)⟩⟩⟩⟩⟩⟩⟩⟩⟩⟩⟩⟩⟩⟩⟩⟩⟩⟩⟩⟩⟩⟩⟩⟩⟩⟩⟩⟩⟩⟩⟩⟩⟩⟩⟩⟩⟩⟩⟩⟩⟩⟩⟩⟩⟩⟩⟩⟩⟩⟩⟩⟩⟩⟩⟩⟩⟩⟩⟩⟩⟩⟩⟩⟩⟩⟩⟩⟩⟩⟩⟩⟩⟩⟩⟩⟩⟩⟩⟩⟩⟩⟩⟩⟩⟩) ix (mid, n) h h2, fun ix mid n h => v_lk (P := fun ix q => ∀ j, ix = j + 100000 → sm_ent TX9_.1 (.invokestatic j) q.1 q.2 (sm_mt q.1)) (List.forall_mem_cons.mpr ⟨(fun j (h : 85 = j + 100000) => absurd h (by omega)), List.forall_mem_cons.mpr ⟨(fun j (h : 89 = j + 100000) => absurd h (by omega)), List.forall_mem_cons.mpr ⟨(fun j (h : 93 = j + 100000) => absurd h (by omega)), List.forall_mem_cons.mpr ⟨(fun j (h : 97 = j + 100000) => absurd h (by omega)), List.forall_mem_cons.mpr ⟨(fun j (h : 101 = j + 100000) => absurd h (by omega)), List.forall_mem_cons.mpr ⟨(fun j (h : 105 = j + 100000) => absurd h (by omega)), List.forall_mem_cons.mpr ⟨(fun j (h : 108 = j + 100000) => absurd h (by omega)), List.forall_mem_cons.mpr ⟨(fun j (h : 111 = j + 100000) => absurd h (by omega)), List.forall_mem_cons.mpr ⟨(fun j (h : 115 = j + 100000) => absurd h (by omega)), List.forall_mem_cons.mpr ⟨(fun j (h : 118 = j + 100000) => absurd h (by omega)), List.forall_mem_cons.mpr ⟨(fun j (h : 122 = j + 100000) => absurd h (by omega)), List.forall_mem_cons.mpr ⟨(fun j (h : 126 = j + 100000) => absurd h (by omega)), List.forall_mem_cons.mpr ⟨(fun j (h : 129 = j + 100000) => absurd h (by omega)), List.forall_mem_cons.mpr ⟨(fun j (h : 133 = j + 100000) => absurd h (by omega)), List.forall_mem_cons.mpr ⟨(fun j (h : 136 = j + 100000) => absurd h (by omega)), List.forall_mem_cons.mpr ⟨(fun j (h : 137 = j + 100000) => absurd h (by omega)), List.forall_mem_cons.mpr ⟨(fun j (h : 138 = j + 100000) => absurd h (by omega)), List.forall_mem_cons.mpr ⟨(fun j (h : 141 = j + 100000) => absurd h (by omega)), List.forall_mem_cons.mpr ⟨(fun j (h : 144 = j + 100000) => absurd h (by omega)), List.forall_mem_cons.mpr ⟨(fun j (h : 147 = j + 100000) => absurd h (by omega)), List.forall_mem_cons.mpr ⟨(fun j (h : 150 = j + 100000) => absurd h (by omega)), List.forall_mem_cons.mpr ⟨(fun j (h : 164 = j + 100000) => absurd h (by omega)), List.forall_mem_cons.mpr ⟨(fun j (h : 167 = j + 100000) => absurd h (by omega)), List.forall_mem_cons.mpr ⟨(fun j (h : 170 = j + 100000) => absurd h (by omega)), List.forall_mem_cons.mpr ⟨(fun j (h : 174 = j + 100000) => absurd h (by omega)), List.forall_mem_cons.mpr ⟨(fun j (h : 177 = j + 100000) => absurd h (by omega)), List.forall_mem_cons.mpr ⟨(fun j (h : 180 = j + 100000) => absurd h (by omega)), List.forall_mem_cons.mpr ⟨(fun j (h : 184 = j + 100000) => absurd h (by omega)), List.forall_mem_cons.mpr ⟨(fun j (h : 188 = j + 100000) => absurd h (by omega)), List.forall_mem_cons.mpr ⟨(fun j (h : 191 = j + 100000) => absurd h (by omega)), List.forall_mem_cons.mpr ⟨(fun j (h : 194 = j + 100000) => absurd h (by omega)), List.forall_mem_cons.mpr ⟨(fun j (h : 197 = j + 100000) => absurd h (by omega)), List.forall_mem_cons.mpr ⟨(fun j (h : 200 = j + 100000) => absurd h (by omega)), List.forall_mem_cons.mpr ⟨(fun j (h : 204 = j + 100000) => absurd h (by omega)), List.forall_mem_cons.mpr ⟨(fun j (h : 207 = j + 100000) => absurd h (by omega)), List.forall_mem_cons.mpr ⟨(fun j (h : 210 = j + 100000) => absurd h (by omega)), List.forall_mem_cons.mpr ⟨(fun j (h : 213 = j + 100000) => absurd h (by omega)), List.forall_mem_cons.mpr ⟨(fun j (h : 216 = j + 100000) => absurd h (by omega)), List.forall_mem_cons.mpr ⟨(fun j (h : 219 = j + 100000) => absurd h (by omega)), List.forall_mem_cons.mpr ⟨(fun j (h : 221 = j + 100000) => absurd h (by omega)), List.forall_mem_cons.mpr ⟨(fun j (h : 224 = j + 100000) => absurd h (by omega)), List.forall_mem_cons.mpr ⟨(fun j (h : 227 = j + 100000) => absurd h (by omega)), List.forall_mem_cons.mpr ⟨(fun j (h : 230 = j + 100000) => absurd h (by omega)), List.forall_mem_cons.mpr ⟨(fun j (h : 234 = j + 100000) => absurd h (by omega)), List.forall_mem_cons.mpr ⟨(fun j (h : 237 = j + 100000) => absurd h (by omega)), List.forall_mem_cons.mpr ⟨(fun j (h : 240 = j + 100000) => absurd h (by omega)), List.forall_mem_cons.mpr ⟨(fun j (h : 243 = j + 100000) => absurd h (by omega)), List.forall_mem_cons.mpr ⟨(fun j (h : 246 = j + 100000) => absurd h (by omega)), List.forall_mem_cons.mpr ⟨(fun j (h : 249 = j + 100000) => absurd h (by omega)), List.forall_mem_cons.mpr ⟨(fun j (h : 252 = j + 100000) => absurd h (by omega)), List.forall_mem_cons.mpr ⟨(fun j (h : 255 = j + 100000) => absurd h (by omega)), List.forall_mem_cons.mpr ⟨(fun j (h : 258 = j + 100000) => absurd h (by omega)), List.forall_mem_cons.mpr ⟨(fun j (h : 259 = j + 100000) => absurd h (by omega)), List.forall_mem_cons.mpr ⟨(fun j (h : 262 = j + 100000) => absurd h (by omega)), List.forall_mem_cons.mpr ⟨(fun j (h : 272 = j + 100000) => absurd h (by omega)), List.forall_mem_cons.mpr ⟨(fun j (h : 275 = j + 100000) => absurd h (by omega)), List.forall_mem_cons.mpr ⟨(fun j (h : 280 = j + 100000) => absurd h (by omega)), List.forall_mem_cons.mpr ⟨(fun j (h : 283 = j + 100000) => absurd h (by omega)), List.forall_mem_cons.mpr ⟨(fun j (h : 286 = j + 100000) => absurd h (by omega)), List.forall_mem_cons.mpr ⟨(fun j (h : 289 = j + 100000) => absurd h (by omega)), List.forall_mem_cons.mpr ⟨(fun j (h : 292 = j + 100000) => absurd h (by omega)), List.forall_mem_cons.mpr ⟨(fun j (h : 295 = j + 100000) => absurd h (by omega)), List.forall_mem_cons.mpr ⟨(fun j (h : 298 = j + 100000) => absurd h (by omega)), List.forall_mem_cons.mpr ⟨(fun j (h : 301 = j + 100000) => absurd h (by omega)), List.forall_mem_cons.mpr ⟨(fun j (h : 304 = j + 100000) => absurd h (by omega)), List.forall_mem_cons.mpr ⟨(fun j (h : 309 = j + 100000) => absurd h (by omega)), List.forall_mem_cons.mpr ⟨(fun j (h : 312 = j + 100000) => absurd h (by omega)), List.forall_mem_cons.mpr ⟨(fun j (h : 315 = j + 100000) => absurd h (by omega)), List.forall_mem_cons.mpr ⟨(fun j (h : 318 = j + 100000) => absurd h (by omega)), List.forall_mem_cons.mpr ⟨(fun j (h : 321 = j + 100000) => absurd h (by omega)), List.forall_mem_cons.mpr ⟨(fun j (h : 324 = j + 100000) => absurd h (by omega)), List.forall_mem_cons.mpr ⟨(fun j (h : 327 = j + 100000) => absurd h (by omega)), List.forall_mem_cons.mpr ⟨(fun j (h : 330 = j + 100000) => absurd h (by omega)), List.forall_mem_cons.mpr ⟨(fun j (h : 333 = j + 100000) => absurd h (by omega)), List.forall_mem_cons.mpr ⟨(fun j (h : 336 = j + 100000) => absurd h (by omega)), List.forall_mem_cons.mpr ⟨(fun j (h : 340 = j + 100000) => absurd h (by omega)), List.forall_mem_cons.mpr ⟨(fun j (h : 341 = j + 100000) => absurd h (by omega)), List.forall_mem_cons.mpr ⟨(fun j (h : 342 = j + 100000) => absurd h (by omega)), List.forall_mem_cons.mpr ⟨(fun j (h : 345 = j + 100000) => absurd h (by omega)), List.forall_mem_cons.mpr ⟨(fun j (h : 346 = j + 100000) => absurd h (by omega)), List.forall_mem_cons.mpr ⟨(fun j (h : 349 = j + 100000) => absurd h (by omega)), List.forall_mem_cons.mpr ⟨(fun j (h : 352 = j + 100000) => absurd h (by omega)), List.forall_mem_cons.mpr ⟨(fun j (h : 355 = j + 100000) => absurd h (by omega)), List.forall_mem_cons.mpr ⟨(fun j (h : 100154 = j + 100000) => (show j = 154 by omega) ▸ vs_X9_100154), List.forall_mem_cons.mpr ⟨(fun j (h : 100160 = j + 100000) => (show j = 160 by omega) ▸ vs_X9_100160), (fun _ h => absurd h List.not_mem_nil)⟩⟩⟩⟩⟩⟩⟩⟩⟩⟩⟩⟩⟩⟩⟩⟩⟩⟩⟩⟩⟩⟩⟩⟩⟩⟩⟩⟩⟩⟩⟩⟩⟩⟩⟩⟩⟩⟩⟩⟩⟩⟩⟩⟩⟩⟩⟩⟩⟩⟩⟩⟩⟩⟩⟩⟩⟩⟩⟩⟩⟩⟩⟩⟩⟩⟩⟩⟩⟩⟩⟩⟩⟩⟩⟩⟩⟩⟩⟩⟩⟩⟩⟩⟩⟩) (ix + 100000) (mid, n) h ix rfl⟩
theorem vf_X10_9 : sm_fok TX10_.1 9 1002 := ⟨RX10, TX10, 42, rfl, by decide, rfl, sm_b5 78 rfl rfl⟩
theorem vf_X10_13 : sm_fok TX10_.1 13 1003 := ⟨RX10, TX10, 42, rfl, by decide, rfl, sm_b5 79 rfl rfl⟩
theorem vf_X10_16 : sm_fok TX10_.1 16 1004 := ⟨RX10, TX10, 42, rfl, by decide, rfl, sm_b5 80 rfl rfl⟩
theorem vf_X10_19 : sm_fok TX10_.1 19 1005 := ⟨RX10, TX10, 42, rfl, by decide, rfl, sm_b5 81 rfl rfl⟩
theorem vf_X10_23 : sm_fok TX10_.1 23 1006 := ⟨RX10, TX10, 42, rfl, by decide, rfl, sm_b5 82 rfl rfl⟩
theorem vf_X10_26 : sm_fok TX10_.1 26 1007 := ⟨RX10, TX10, 42, rfl, by decide, rfl, sm_b5 83 rfl rfl⟩
theorem vf_X10_29 : sm_fok TX10_.1 29 1010 := ⟨RX10, TX10, 42, rfl, by decide, rfl, sm_b5 86 rfl rfl⟩
theorem vf_X10_32 : sm_fok TX10_.1 32 1011 := ⟨RX10, TX10, 42, rfl, by decide, rfl, sm_b5 87 rfl rfl⟩
theorem vf_X10_35 : sm_fok TX10_.1 35 1012 := ⟨RX10, TX10, 42, rfl, by decide, rfl, sm_b5 88 rfl rfl⟩
theorem vf_X10_38 : sm_fok TX10_.1 38 1013 := ⟨RX10, TX10, 42, rfl, by decide, rfl, sm_b5 89 rfl rfl⟩
theorem vf_X10_41 : sm_fok TX10_.1 41 1014 := ⟨RX10, TX10, 42, rfl, by decide, rfl, sm_b5 90 rfl rfl⟩
theorem vf_X10_44 : sm_fok TX10_.1 44 1015 := ⟨RX10, TX10, 42, rfl, by decide, rfl, sm_b5 91 rfl rfl⟩
theorem vf_X10_47 : sm_fok TX10_.1 47 1016 := ⟨RX10, TX10, 42, rfl, by decide, rfl, sm_b5 92 rfl rfl⟩
theorem vf_X10_50 : sm_fok TX10_.1 50 1017 := ⟨RX10, TX10, 42, rfl, by decide, rfl, sm_b5 93 rfl rfl⟩
theorem vf_X10_53 : sm_fok TX10_.1 53 1018 := ⟨RX10, TX10, 42, rfl, by decide, rfl, sm_b5 94 rfl rfl⟩
theorem vf_X10_56 : sm_fok TX10_.1 56 1019 := ⟨RX10, TX10, 42, rfl, by decide, rfl, sm_b5 95 rfl rfl⟩
theorem vf_X10_59 : sm_fok TX10_.1 59 1020 := ⟨RX10, TX10, 42, rfl, by decide, rfl, sm_b5 96 rfl rfl⟩
theorem vf_X10_62 : sm_fok TX10_.1 62 1021 := ⟨RX10, TX10, 42, rfl, by decide, rfl, sm_b5 97 rfl rfl⟩
theorem vf_X10_65 : sm_fok TX10_.1 65 1023 := ⟨RX10, TX10, 42, rfl, by decide, rfl, sm_b5 99 rfl rfl⟩
theorem vf_X10_68 : sm_fok TX10_.1 68 1024 := ⟨RX10, TX10, 42, rfl, by decide, rfl, sm_b5 100 rfl rfl⟩
theorem vf_X10_71 : sm_fok TX10_.1 71 1025 := ⟨RX10, TX10, 42, rfl, by decide, rfl, sm_b5 101 rfl rfl⟩
theorem vf_X10_74 : sm_fok TX10_.1 74 1026 := ⟨RX10, TX10, 42, rfl, by decide, rfl, sm_b5 102 rfl rfl⟩
theorem vf_X10_77 : sm_fok TX10_.1 77 1029 := ⟨RX10, TX10, 42, rfl, by decide, rfl, sm_b5 105 rfl rfl⟩
theorem vf_X10_81 : sm_fok TX10_.1 81 1030 := ⟨RX10, TX10, 42, rfl, by decide, rfl, sm_b5 106 rfl rfl⟩
theorem vf_X10_84 : sm_fok TX10_.1 84 1032 := ⟨RX10, TX10, 42, rfl, by decide, rfl, sm_b5 108 rfl rfl⟩
theorem vf_X10_87 : sm_fok TX10_.1 87 1034 := ⟨RX10, TX10, 42, rfl, by decide, rfl, sm_b5 110 rfl rfl⟩
theorem vf_X10_90 : sm_fok TX10_.1 90 1036 := ⟨RX10, TX10, 42, rfl, by decide, rfl, sm_b5 112 rfl rfl⟩
theorem vf_X10_93 : sm_fok TX10_.1 93 1037 := ⟨RX10, TX10, 42, rfl, by decide, rfl, sm_b5 113 rfl rfl⟩
theorem vf_X10_96 : sm_fok TX10_.1 96 1038 := ⟨RX10, TX10, 42, rfl, by decide, rfl, sm_b5 114 rfl rfl⟩
theorem vf_X10_99 : sm_fok TX10_.1 99 1039 := ⟨RX10, TX10, 42, rfl, by decide, rfl, sm_b5 115 rfl rfl⟩
theorem vf_X10_102 : sm_fok TX10_.1 102 1040 := ⟨RX10, TX10, 42, rfl, by decide, rfl, sm_b5 116 rfl rfl⟩
theorem vf_X10_105 : sm_fok TX10_.1 105 1000 := ⟨RX10, TX10, 42, rfl, by decide, rfl, sm_b5 76 rfl rfl⟩
theorem vf_X10_113 : sm_fok TX10_.1 113 1001 := ⟨RX10, TX10, 42, rfl, by decide, rfl, sm_b5 77 rfl rfl⟩
theorem vf_X10_127 : sm_fok TX10_.1 127 1008 := ⟨RX10, TX10, 42, rfl, by decide, rfl, sm_b5 84 rfl rfl⟩
theorem vf_X10_130 : sm_fok TX10_.1 130 1009 := ⟨RX10, TX10, 42, rfl, by decide, rfl, sm_b5 85 rfl rfl⟩
theorem vf_X10_169 : sm_fok TX10_.1 169 1027 := ⟨RX10, TX10, 42, rfl, by decide, rfl, sm_b5 103 rfl rfl⟩
theorem vf_X10_172 : sm_fok TX10_.1 172 1028 := ⟨RX10, TX10, 42, rfl, by decide, rfl, sm_b5 104 rfl rfl⟩
theorem vf_X10_187 : sm_fok TX10_.1 187 1031 := ⟨RX10, TX10, 42, rfl, by decide, rfl, sm_b5 107 rfl rfl⟩
theorem vf_X10_207 : sm_fok TX10_.1 207 1033 := ⟨RX10, TX10, 42, rfl, by decide, rfl, sm_b5 109 rfl rfl⟩
theorem vf_X10_223 : sm_fok TX10_.1 223 1035 := ⟨RX10, TX10, 42, rfl, by decide, rfl, sm_b5 111 rfl rfl⟩
theorem vf_X10_229 : sm_fok TX10_.1 229 1022 := ⟨RX10, TX10, 42, rfl, by decide, rfl, sm_b5 98 rfl rfl⟩
theorem vf_X10_232 : sm_fok TX10_.1 232 1041 := ⟨RX10, TX10, 42, rfl, by decide, rfl, sm_b5 117 rfl rfl⟩
theorem vs_X10_116 : sm_ent TX10_.1 (.invokevirtual 116) 163 2 (sm_mt 163) := by
  rw [mt_163]
  exact Or.inr (Or.inr ⟨by decide, by decide, rfl, 0, mok_X10_isQuestion, 116, rfl, rfl, by decide +kernel, sm_b5 218 rfl rfl, sm_b5 220 rfl rfl, sm_p2 13 rfl rfl⟩)
theorem vs_X10_120 : sm_ent TX10_.1 (.invokevirtual 120) 164 3 (sm_mt 164) := by
  rw [mt_164]
  exact Or.inr (Or.inr ⟨by decide, by decide, rfl, 0, mok_X10_isAnswer, 120, rfl, rfl, by decide +kernel, sm_b5 222 rfl rfl, sm_b5 224 rfl rfl, sm_p2 14 rfl rfl⟩)
theorem vs_X10_124 : sm_ent TX10_.1 (.invokevirtual 124) 165 4 (sm_mt 165) := by
  rw [mt_165]
  exact Or.inr (Or.inr ⟨by decide, by decide, rfl, 0, mok_X10_mayBe, 124, rfl, rfl, by decide +kernel, sm_b5 230 rfl rfl, sm_b5 232 rfl rfl, sm_p2 15 rfl rfl⟩)
theorem vs_X10_133 : sm_ent TX10_.1 (.invokevirtual 133) 168 2 (sm_mt 168) := by
  rw [mt_168]
  exact Or.inr (Or.inr ⟨by decide, by decide, rfl, 0, mok_X10_isThing, 133, rfl, rfl, by decide +kernel, sm_b6 2 rfl rfl, sm_b6 4 rfl rfl, sm_p3 1 rfl rfl⟩)
theorem vs_X10_136 : sm_ent TX10_.1 (.invokevirtual 136) 170 2 (sm_mt 170) := by
  rw [mt_170]
  exact Or.inr (Or.inr ⟨by decide, by decide, rfl, 0, mok_X10_isOut, 136, rfl, rfl, by decide +kernel, sm_b6 6 rfl rfl, sm_b6 8 rfl rfl, sm_p3 2 rfl rfl⟩)
theorem vs_X10_139 : sm_ent TX10_.1 (.invokevirtual 139) 171 2 (sm_mt 171) := by
  rw [mt_171]
  exact Or.inr (Or.inr ⟨by decide, by decide, rfl, 0, mok_X10_isBag, 139, rfl, rfl, by decide +kernel, sm_b5 238 rfl rfl, sm_b6 0 rfl rfl, sm_p3 0 rfl rfl⟩)
theorem vs_X10_142 : sm_ent TX10_.1 (.invokevirtual 142) 169 2 (sm_mt 169) := by
  rw [mt_169]
  exact Or.inr (Or.inr ⟨by decide, by decide, rfl, 0, mok_X10_isReport, 142, rfl, rfl, by decide +kernel, sm_b6 22 rfl rfl, sm_b6 24 rfl rfl, sm_p3 4 rfl rfl⟩)
theorem vs_X10_145 : sm_ent TX10_.1 (.invokevirtual 145) 174 3 (sm_mt 174) := by
  rw [mt_174]
  exact Or.inr (Or.inr ⟨by decide, by decide, rfl, 0, mok_X10_rowOf, 145, rfl, rfl, by decide +kernel, sm_b6 18 rfl rfl, sm_b6 20 rfl rfl, sm_p3 3 rfl rfl⟩)
theorem vs_X10_149 : sm_ent TX10_.1 (.invokevirtual 149) 177 3 (sm_mt 177) := by
  rw [mt_177]
  exact Or.inr (Or.inr ⟨by decide, by decide, rfl, 0, mok_X10_knows, 149, rfl, rfl, by decide +kernel, sm_b6 34 rfl rfl, sm_b6 36 rfl rfl, sm_p3 5 rfl rfl⟩)
theorem vs_X10_153 : sm_ent TX10_.1 (.invokevirtual 153) 180 3 (sm_mt 180) := by
  rw [mt_180]
  exact Or.inr (Or.inr ⟨by decide, by decide, rfl, 0, mok_X10_apart, 153, rfl, rfl, by decide +kernel, sm_b6 50 rfl rfl, sm_b6 52 rfl rfl, sm_p3 7 rfl rfl⟩)
theorem vs_X10_156 : sm_ent TX10_.1 (.invokevirtual 156) 181 3 (sm_mt 181) := by
  rw [mt_181]
  exact Or.inr (Or.inr ⟨by decide, by decide, rfl, 0, mok_X10_isFit, 156, rfl, rfl, by decide +kernel, sm_b6 46 rfl rfl, sm_b6 48 rfl rfl, sm_p3 6 rfl rfl⟩)
theorem vs_X10_159 : sm_ent TX10_.1 (.invokevirtual 159) 185 3 (sm_mt 185) := by
  rw [mt_185]
  exact Or.inr (Or.inr ⟨by decide, by decide, rfl, 0, mok_X10_strengthOf, 159, rfl, rfl, by decide +kernel, sm_b6 62 rfl rfl, sm_b6 64 rfl rfl, sm_p3 8 rfl rfl⟩)
theorem vs_X10_162 : sm_ent TX10_.1 (.invokevirtual 162) 182 3 (sm_mt 182) := by
  rw [mt_182]
  exact Or.inr (Or.inr ⟨by decide, by decide, rfl, 0, mok_X10_isFitIn, 162, rfl, rfl, by decide +kernel, sm_b6 74 rfl rfl, sm_b6 76 rfl rfl, sm_p3 10 rfl rfl⟩)
theorem vs_X10_165 : sm_ent TX10_.1 (.invokevirtual 165) 187 2 (sm_mt 187) := by
  rw [mt_187]
  exact Or.inr (Or.inr ⟨by decide, by decide, rfl, 0, mok_X10_fitting0, 165, rfl, rfl, by decide +kernel, sm_b6 70 rfl rfl, sm_b6 72 rfl rfl, sm_p3 9 rfl rfl⟩)
theorem vs_X10_183 : sm_ent TX10_.1 (.invokevirtual 183) 192 3 (sm_mt 192) := by
  rw [mt_192]
  exact Or.inr (Or.inr ⟨by decide, by decide, rfl, 0, mok_X10_worth, 183, rfl, rfl, by decide +kernel, sm_b6 106 rfl rfl, sm_b6 108 rfl rfl, sm_p4 0 rfl rfl⟩)
theorem vs_X10_190 : sm_ent TX10_.1 (.invokevirtual 190) 190 2 (sm_mt 190) := by
  rw [mt_190]
  exact Or.inr (Or.inr ⟨by decide, by decide, rfl, 0, mok_X10_findGroup, 190, rfl, rfl, by decide +kernel, sm_b6 94 rfl rfl, sm_b6 96 rfl rfl, sm_p3 13 rfl rfl⟩)
theorem vs_X10_194 : sm_ent TX10_.1 (.invokevirtual 194) 191 1 (sm_mt 191) := by
  rw [mt_191]
  exact Or.inr (Or.inr ⟨by decide, by decide, rfl, 0, mok_X10_isTooLarge, 194, rfl, rfl, by decide +kernel, sm_b6 98 rfl rfl, sm_b6 100 rfl rfl, sm_p3 14 rfl rfl⟩)
theorem vs_X10_198 : sm_ent TX10_.1 (.invokevirtual 198) 193 1 (sm_mt 193) := by
  rw [mt_193]
  exact Or.inr (Or.inr ⟨by decide, by decide, rfl, 0, mok_X10_match, 198, rfl, rfl, by decide +kernel, sm_b6 102 rfl rfl, sm_b6 104 rfl rfl, sm_p3 15 rfl rfl⟩)
theorem vs_X10_201 : sm_ent TX10_.1 (.invokevirtual 201) 194 2 (sm_mt 194) := by
  rw [mt_194]
  exact Or.inr (Or.inr ⟨by decide, by decide, rfl, 0, mok_X10_isOpen, 201, rfl, rfl, by decide +kernel, sm_b6 86 rfl rfl, sm_b6 88 rfl rfl, sm_p3 11 rfl rfl⟩)
theorem vs_X10_204 : sm_ent TX10_.1 (.invokevirtual 204) 195 2 (sm_mt 195) := by
  rw [mt_195]
  exact Or.inr (Or.inr ⟨by decide, by decide, rfl, 0, mok_X10_given, 204, rfl, rfl, by decide +kernel, sm_b6 90 rfl rfl, sm_b6 92 rfl rfl, sm_p3 12 rfl rfl⟩)
theorem vs_X10_210 : sm_ent TX10_.1 (.invokevirtual 210) 201 2 (sm_mt 201) := by
  rw [mt_201]
  exact Or.inr (Or.inr ⟨by decide, by decide, rfl, 0, mok_X10_findFitted, 210, rfl, rfl, by decide +kernel, sm_b6 134 rfl rfl, sm_b6 136 rfl rfl, sm_p4 1 rfl rfl⟩)
theorem vs_X10_213 : sm_ent TX10_.1 (.invokevirtual 213) 202 2 (sm_mt 202) := by
  rw [mt_202]
  exact Or.inr (Or.inr ⟨by decide, by decide, rfl, 0, mok_X10_classes, 213, rfl, rfl, by decide +kernel, sm_b6 138 rfl rfl, sm_b6 140 rfl rfl, sm_p4 2 rfl rfl⟩)
theorem vs_X10_216 : sm_ent TX10_.1 (.invokevirtual 216) 205 4 (sm_mt 205) := by
  rw [mt_205]
  exact Or.inr (Or.inr ⟨by decide, by decide, rfl, 0, mok_X10_classOf, 216, rfl, rfl, by decide +kernel, sm_b6 154 rfl rfl, sm_b6 156 rfl rfl, sm_p4 4 rfl rfl⟩)
theorem vs_X10_220 : sm_ent TX10_.1 (.invokevirtual 220) 206 3 (sm_mt 206) := by
  rw [mt_206]
  exact Or.inr (Or.inr ⟨by decide, by decide, rfl, 0, mok_X10_worst, 220, rfl, rfl, by decide +kernel, sm_b6 150 rfl rfl, sm_b6 152 rfl rfl, sm_p4 3 rfl rfl⟩)
theorem vs_X10_226 : sm_ent TX10_.1 (.invokevirtual 226) 208 2 (sm_mt 208) := by
  rw [mt_208]
  exact Or.inr (Or.inr ⟨by decide, by decide, rfl, 0, mok_X10_stands, 226, rfl, rfl, by decide +kernel, sm_b6 162 rfl rfl, sm_b6 164 rfl rfl, sm_p4 5 rfl rfl⟩)
theorem vs_X10_235 : sm_ent TX10_.1 (.invokevirtual 235) 209 2 (sm_mt 209) := by
  rw [mt_209]
  exact Or.inr (Or.inr ⟨by decide, by decide, rfl, 0, mok_X10_standing, 235, rfl, rfl, by decide +kernel, sm_b6 182 rfl rfl, sm_b6 184 rfl rfl, sm_p4 8 rfl rfl⟩)
theorem vs_X10_238 : sm_ent TX10_.1 (.invokevirtual 238) 212 4 (sm_mt 212) := by
  rw [mt_212]
  exact Or.inr (Or.inr ⟨by decide, by decide, rfl, 0, mok_X10_goesOut, 238, rfl, rfl, by decide +kernel, sm_b6 178 rfl rfl, sm_b6 180 rfl rfl, sm_p4 7 rfl rfl⟩)
theorem vs_X10_242 : sm_ent TX10_.1 (.invokevirtual 242) 213 2 (sm_mt 213) := by
  rw [mt_213]
  exact Or.inr (Or.inr ⟨by decide, by decide, rfl, 0, mok_X10_withdrawAll, 242, rfl, rfl, by decide +kernel, sm_b6 174 rfl rfl, sm_b6 176 rfl rfl, sm_p4 6 rfl rfl⟩)
theorem vs_X10_245 : sm_ent TX10_.1 (.invokevirtual 245) 219 2 (sm_mt 219) := by
  rw [mt_219]
  exact Or.inr (Or.inr ⟨by decide, by decide, rfl, 0, mok_X10_inside, 245, rfl, rfl, by decide +kernel, sm_b6 206 rfl rfl, sm_b6 208 rfl rfl, sm_p4 9 rfl rfl⟩)
theorem vs_X10_248 : sm_ent TX10_.1 (.invokevirtual 248) 222 1 (sm_mt 222) := by
  rw [mt_222]
  exact Or.inr (Or.inr ⟨by decide, by decide, rfl, 0, mok_X10_oneDay, 248, rfl, rfl, by decide +kernel, sm_b6 218 rfl rfl, sm_b6 220 rfl rfl, sm_p4 10 rfl rfl⟩)
theorem vs_X10_100109 : sm_ent TX10_.1 (.invokestatic 109) 161 3 (sm_mt 161) := by
  rw [mt_161]
  exact Or.inr (Or.inr ⟨by decide, by decide, rfl, 1, mok_X10_in, 109, rfl, rfl, by decide +kernel, sm_b5 211 rfl rfl, sm_b5 212 rfl rfl⟩)
theorem v_tok_X10 : sm_tok sm_mt TX10_ := ⟨v_lk (List.forall_mem_cons.mpr ⟨vf_X10_9, List.forall_mem_cons.mpr ⟨vf_X10_13, List.forall_mem_cons.mpr ⟨vf_X10_16, List.forall_mem_cons.mpr ⟨vf_X10_19, List.forall_mem_cons.mpr ⟨vf_X10_23, List.forall_mem_cons.mpr ⟨vf_X10_26, List.forall_mem_cons.mpr ⟨vf_X10_29, List.forall_mem_cons.mpr ⟨vf_X10_32, List.forall_mem_cons.mpr ⟨vf_X10_35, List.forall_mem_cons.mpr ⟨vf_X10_38, List.forall_mem_cons.mpr ⟨vf_X10_41, List.forall_mem_cons.mpr ⟨vf_X10_44, List.forall_mem_cons.mpr ⟨vf_X10_47, List.forall_mem_cons.mpr ⟨vf_X10_50, List.forall_mem_cons.mpr ⟨vf_X10_53, List.forall_mem_cons.mpr ⟨vf_X10_56, List.forall_mem_cons.mpr ⟨vf_X10_59, List.forall_mem_cons.mpr ⟨vf_X10_62, List.forall_mem_cons.mpr ⟨vf_X10_65, List.forall_mem_cons.mpr ⟨vf_X10_68, List.forall_mem_cons.mpr ⟨vf_X10_71, List.forall_mem_cons.mpr ⟨vf_X10_74, List.forall_mem_cons.mpr ⟨vf_X10_77, List.forall_mem_cons.mpr ⟨vf_X10_81, List.forall_mem_cons.mpr ⟨vf_X10_84, List.forall_mem_cons.mpr ⟨vf_X10_87, List.forall_mem_cons.mpr ⟨vf_X10_90, List.forall_mem_cons.mpr ⟨vf_X10_93, List.forall_mem_cons.mpr ⟨vf_X10_96, List.forall_mem_cons.mpr ⟨vf_X10_99, List.forall_mem_cons.mpr ⟨vf_X10_102, List.forall_mem_cons.mpr ⟨vf_X10_105, List.forall_mem_cons.mpr ⟨vf_X10_113, List.forall_mem_cons.mpr ⟨vf_X10_127, List.forall_mem_cons.mpr ⟨vf_X10_130, List.forall_mem_cons.mpr ⟨vf_X10_169, List.forall_mem_cons.mpr ⟨vf_X10_172, List.forall_mem_cons.mpr ⟨vf_X10_187, List.forall_mem_cons.mpr ⟨vf_X10_207, List.forall_mem_cons.mpr ⟨vf_X10_223, List.forall_mem_cons.mpr ⟨vf_X10_229, List.forall_mem_cons.mpr ⟨vf_X10_232, (fun _ h => absurd h List.not_mem_nil)⟩⟩⟩⟩⟩⟩⟩⟩⟩⟩⟩⟩⟩⟩⟩⟩⟩⟩⟩⟩⟩⟩⟩⟩⟩⟩⟩⟩⟩⟩⟩⟩⟩⟩⟩⟩⟩⟩⟩⟩⟩⟩), v_lk ((fun _ h => absurd h List.not_mem_nil)), v_lk (List.forall_mem_cons.mpr ⟨sm_b6 110 rfl rfl, List.forall_mem_cons.mpr ⟨sm_b6 111 rfl rfl, List.forall_mem_cons.mpr ⟨sm_b6 112 rfl rfl, List.forall_mem_cons.mpr ⟨sm_b6 113 rfl rfl, (fun _ h => absurd h List.not_mem_nil)⟩⟩⟩⟩), fun ix mid n h h2 => v_lk (P := fun ix q => ix < 100000 → sm_ent TX10_.1 (.invokevirtual ix) q.1 q.2 (sm_mt q.1)) (List.forall_mem_cons.mpr ⟨(fun _ => vs_X10_116), List.forall_mem_cons.mpr ⟨(fun _ => vs_X10_120), List.forall_mem_cons.mpr ⟨(fun _ => vs_X10_124), List.forall_mem_cons.mpr ⟨(fun _ => vs_X10_133), List.forall_mem_cons.mpr ⟨(fun _ => vs_X10_136), List.forall_mem_cons.mpr ⟨(fun _ => vs_X10_139), List.forall_mem_cons.mpr ⟨(fun _ => vs_X10_142), List.forall_mem_cons.mpr ⟨(fun _ => vs_X10_145), List.forall_mem_cons.mpr ⟨(fun _ => vs_X10_149), List.forall_mem_cons.mpr ⟨(fun _ => vs_X10_153), List.forall_mem_cons.mpr ⟨(fun _ => vs_X10_156), List.forall_mem_cons.mpr ⟨(fun _ => vs_X10_159), List.forall_mem_cons.mpr ⟨(fun _ => vs_X10_162), List.forall_mem_cons.mpr ⟨(fun _ => vs_X10_165), List.forall_mem_cons.mpr ⟨(fun _ => vs_X10_183), List.forall_mem_cons.mpr ⟨(fun _ => vs_X10_190), List.forall_mem_cons.mpr ⟨(fun _ => vs_X10_194), List.forall_mem_cons.mpr ⟨(fun _ => vs_X10_198), List.forall_mem_cons.mpr ⟨(fun _ => vs_X10_201), List.forall_mem_cons.mpr ⟨(fun _ => vs_X10_204), List.forall_mem_cons.mpr ⟨(fun _ => vs_X10_210), List.forall_mem_cons.mpr ⟨(fun _ => vs_X10_213), List.forall_mem_cons.mpr ⟨(fun _ => vs_X10_216), List.forall_mem_cons.mpr ⟨(fun _ => vs_X10_220), List.forall_mem_cons.mpr ⟨(fun _ => vs_X10_226), List.forall_mem_cons.mpr ⟨(fun _ => vs_X10_235), List.forall_mem_cons.mpr ⟨(fun _ => vs_X10_238), List.forall_mem_cons.mpr ⟨(fun _ => vs_X10_242), List.forall_mem_cons.mpr ⟨(fun _ => vs_X10_245), List.forall_mem_cons.mpr ⟨(fun _ => vs_X10_248), List.forall_mem_cons.mpr ⟨(fun (h : 100109 < 100000) => absurd h (by omega)), (fun _ h => absurd h List.not_mem_nil)⟩⟩⟩⟩⟩⟩⟩⟩⟩⟩⟩⟩⟩⟩⟩⟩⟩⟩⟩⟩⟩⟩⟩⟩⟩⟩⟩⟩⟩⟩⟩) ix (mid, n) h h2, fun ix mid n h => v_lk (P := fun ix q => ∀ j, ix = j + 100000 → sm_ent TX10_.1 (.invokestatic j) q.1 q.2 (sm_mt q.1)) (List.forall_mem_cons.mpr ⟨(fun j (h : 116 = j + 100000) => absurd h (by omega)), List.forall_mem_cons.mpr ⟨(fun j (h : 120 = j + 100000) => absurd h (by omega)), List.forall_mem_cons.mpr ⟨(fun j (h : 124 = j + 100000) => absurd h (by omega)), List.forall_mem_cons.mpr ⟨(fun j (h : 133 = j + 100000) => absurd h (by omega)), List.forall_mem_cons.mpr ⟨(fun j (h : 136 = j + 100000) => absurd h (by omega)), List.forall_mem_cons.mpr ⟨(fun j (h : 139 = j + 100000) => absurd h (by omega)), List.forall_mem_cons.mpr ⟨(fun j (h : 142 = j + 100000) => absurd h (by omega)), List.forall_mem_cons.mpr ⟨(fun j (h : 145 = j + 100000) => absurd h (by omega)), List.forall_mem_cons.mpr ⟨(fun j (h : 149 = j + 100000) => absurd h (by omega)), List.forall_mem_cons.mpr ⟨(fun j (h : 153 = j + 100000) => absurd h (by omega)), List.forall_mem_cons.mpr ⟨(fun j (h : 156 = j + 100000) => absurd h (by omega)), List.forall_mem_cons.mpr ⟨(fun j (h : 159 = j + 100000) => absurd h (by omega)), List.forall_mem_cons.mpr ⟨(fun j (h : 162 = j + 100000) => absurd h (by omega)), List.forall_mem_cons.mpr ⟨(fun j (h : 165 = j + 100000) => absurd h (by omega)), List.forall_mem_cons.mpr ⟨(fun j (h : 183 = j + 100000) => absurd h (by omega)), List.forall_mem_cons.mpr ⟨(fun j (h : 190 = j + 100000) => absurd h (by omega)), List.forall_mem_cons.mpr ⟨(fun j (h : 194 = j + 100000) => absurd h (by omega)), List.forall_mem_cons.mpr ⟨(fun j (h : 198 = j + 100000) => absurd h (by omega)), List.forall_mem_cons.mpr ⟨(fun j (h : 201 = j + 100000) => absurd h (by omega)), List.forall_mem_cons.mpr ⟨(fun j (h : 204 = j + 100000) => absurd h (by omega)), List.forall_mem_cons.mpr ⟨(fun j (h : 210 = j + 100000) => absurd h (by omega)), List.forall_mem_cons.mpr ⟨(fun j (h : 213 = j + 100000) => absurd h (by omega)), List.forall_mem_cons.mpr ⟨(fun j (h : 216 = j + 100000) => absurd h (by omega)), List.forall_mem_cons.mpr ⟨(fun j (h : 220 = j + 100000) => absurd h (by omega)), List.forall_mem_cons.mpr ⟨(fun j (h : 226 = j + 100000) => absurd h (by omega)), List.forall_mem_cons.mpr ⟨(fun j (h : 235 = j + 100000) => absurd h (by omega)), List.forall_mem_cons.mpr ⟨(fun j (h : 238 = j + 100000) => absurd h (by omega)), List.forall_mem_cons.mpr ⟨(fun j (h : 242 = j + 100000) => absurd h (by omega)), List.forall_mem_cons.mpr ⟨(fun j (h : 245 = j + 100000) => absurd h (by omega)), List.forall_mem_cons.mpr ⟨(fun j (h : 248 = j + 100000) => absurd h (by omega)), List.forall_mem_cons.mpr ⟨(fun j (h : 100109 = j + 100000) => (show j = 109 by omega) ▸ vs_X10_100109), (fun _ h => absurd h List.not_mem_nil)⟩⟩⟩⟩⟩⟩⟩⟩⟩⟩⟩⟩⟩⟩⟩⟩⟩⟩⟩⟩⟩⟩⟩⟩⟩⟩⟩⟩⟩⟩⟩) (ix + 100000) (mid, n) h ix rfl⟩
theorem vs_L_22 : sm_ent TL_.1 (.invokevirtual 22) 115 4 (sm_mt 115) := by
  rw [mt_115]
  exact Or.inr (Or.inr ⟨by decide, by decide, rfl, 0, mok_X9_question, 22, rfl, rfl, by decide +kernel, sm_b2 64 rfl rfl, sm_b2 65 rfl rfl, sm_b2 66 rfl rfl⟩)
theorem vs_L_26 : sm_ent TL_.1 (.invokevirtual 26) 162 4 (sm_mt 162) := by
  rw [mt_162]
  exact Or.inr (Or.inr ⟨by decide, by decide, rfl, 0, mok_X10_question, 26, rfl, rfl, by decide +kernel, sm_b5 207 rfl rfl, sm_b5 208 rfl rfl, sm_b5 209 rfl rfl⟩)
theorem vs_L_27 : sm_ent TL_.1 (.invokevirtual 27) 116 5 (sm_mt 116) := by
  rw [mt_116]
  exact Or.inr (Or.inr ⟨by decide, by decide, rfl, 0, mok_X9_may, 27, rfl, rfl, by decide +kernel, sm_b2 75 rfl rfl, sm_b2 76 rfl rfl, sm_b2 77 rfl rfl⟩)
theorem vs_L_31 : sm_ent TL_.1 (.invokevirtual 31) 166 5 (sm_mt 166) := by
  rw [mt_166]
  exact Or.inr (Or.inr ⟨by decide, by decide, rfl, 0, mok_X10_may, 31, rfl, rfl, by decide +kernel, sm_b5 214 rfl rfl, sm_b5 215 rfl rfl, sm_b5 216 rfl rfl⟩)
theorem vs_L_32 : sm_ent TL_.1 (.invokevirtual 32) 117 4 (sm_mt 117) := by
  rw [mt_117]
  exact Or.inr (Or.inr ⟨by decide, by decide, rfl, 0, mok_X9_mays, 32, rfl, rfl, by decide +kernel, sm_b2 92 rfl rfl, sm_b2 93 rfl rfl, sm_b2 94 rfl rfl⟩)
theorem vs_L_35 : sm_ent TL_.1 (.invokevirtual 35) 167 4 (sm_mt 167) := by
  rw [mt_167]
  exact Or.inr (Or.inr ⟨by decide, by decide, rfl, 0, mok_X10_mays, 35, rfl, rfl, by decide +kernel, sm_b5 226 rfl rfl, sm_b5 227 rfl rfl, sm_b5 228 rfl rfl⟩)
theorem vs_L_36 : sm_ent TL_.1 (.invokevirtual 36) 118 5 (sm_mt 118) := by
  rw [mt_118]
  exact Or.inr (Or.inr ⟨by decide, by decide, rfl, 0, mok_X9_thing, 36, rfl, rfl, by decide +kernel, sm_b2 107 rfl rfl, sm_b2 108 rfl rfl, sm_b2 109 rfl rfl⟩)
theorem vs_L_40 : sm_ent TL_.1 (.invokevirtual 40) 172 5 (sm_mt 172) := by
  rw [mt_172]
  exact Or.inr (Or.inr ⟨by decide, by decide, rfl, 0, mok_X10_thing, 40, rfl, rfl, by decide +kernel, sm_b5 234 rfl rfl, sm_b5 235 rfl rfl, sm_b5 236 rfl rfl⟩)
theorem vs_L_41 : sm_ent TL_.1 (.invokevirtual 41) 119 2 (sm_mt 119) := by
  rw [mt_119]
  exact Or.inr (Or.inr ⟨by decide, by decide, rfl, 0, mok_X9_report, 41, rfl, rfl, by decide +kernel, sm_b2 123 rfl rfl, sm_b2 124 rfl rfl, sm_b2 125 rfl rfl⟩)
theorem vs_L_45 : sm_ent TL_.1 (.invokevirtual 45) 173 2 (sm_mt 173) := by
  rw [mt_173]
  exact Or.inr (Or.inr ⟨by decide, by decide, rfl, 0, mok_X10_report, 45, rfl, rfl, by decide +kernel, sm_b6 10 rfl rfl, sm_b6 11 rfl rfl, sm_b6 12 rfl rfl⟩)
theorem vs_L_46 : sm_ent TL_.1 (.invokevirtual 46) 120 5 (sm_mt 120) := by
  rw [mt_120]
  exact Or.inr (Or.inr ⟨by decide, by decide, rfl, 0, mok_X9_mark, 46, rfl, rfl, by decide +kernel, sm_b2 131 rfl rfl, sm_b2 132 rfl rfl, sm_b2 133 rfl rfl⟩)
theorem vs_L_50 : sm_ent TL_.1 (.invokevirtual 50) 175 5 (sm_mt 175) := by
  rw [mt_175]
  exact Or.inr (Or.inr ⟨by decide, by decide, rfl, 0, mok_X10_mark, 50, rfl, rfl, by decide +kernel, sm_b6 14 rfl rfl, sm_b6 15 rfl rfl, sm_b6 16 rfl rfl⟩)
theorem vs_L_51 : sm_ent TL_.1 (.invokevirtual 51) 121 4 (sm_mt 121) := by
  rw [mt_121]
  exact Or.inr (Or.inr ⟨by decide, by decide, rfl, 0, mok_X9_tear, 51, rfl, rfl, by decide +kernel, sm_b2 163 rfl rfl, sm_b2 164 rfl rfl, sm_b2 165 rfl rfl⟩)
theorem vs_L_55 : sm_ent TL_.1 (.invokevirtual 55) 176 4 (sm_mt 176) := by
  rw [mt_176]
  exact Or.inr (Or.inr ⟨by decide, by decide, rfl, 0, mok_X10_tear, 55, rfl, rfl, by decide +kernel, sm_b6 26 rfl rfl, sm_b6 27 rfl rfl, sm_b6 28 rfl rfl⟩)
theorem vs_L_56 : sm_ent TL_.1 (.invokevirtual 56) 122 4 (sm_mt 122) := by
  rw [mt_122]
  exact Or.inr (Or.inr ⟨by decide, by decide, rfl, 0, mok_X9_known, 56, rfl, rfl, by decide +kernel, sm_b2 171 rfl rfl, sm_b2 172 rfl rfl, sm_b2 173 rfl rfl⟩)
theorem vs_L_60 : sm_ent TL_.1 (.invokevirtual 60) 178 4 (sm_mt 178) := by
  rw [mt_178]
  exact Or.inr (Or.inr ⟨by decide, by decide, rfl, 0, mok_X10_known, 60, rfl, rfl, by decide +kernel, sm_b6 30 rfl rfl, sm_b6 31 rfl rfl, sm_b6 32 rfl rfl⟩)
theorem vs_L_61 : sm_ent TL_.1 (.invokevirtual 61) 123 3 (sm_mt 123) := by
  rw [mt_123]
  exact Or.inr (Or.inr ⟨by decide, by decide, rfl, 0, mok_X9_length, 61, rfl, rfl, by decide +kernel, sm_b2 179 rfl rfl, sm_b2 180 rfl rfl, sm_b2 181 rfl rfl⟩)
theorem vs_L_65 : sm_ent TL_.1 (.invokevirtual 65) 179 3 (sm_mt 179) := by
  rw [mt_179]
  exact Or.inr (Or.inr ⟨by decide, by decide, rfl, 0, mok_X10_length, 65, rfl, rfl, by decide +kernel, sm_b6 38 rfl rfl, sm_b6 39 rfl rfl, sm_b6 40 rfl rfl⟩)
theorem vs_L_66 : sm_ent TL_.1 (.invokevirtual 66) 126 3 (sm_mt 126) := by
  rw [mt_126]
  exact Or.inr (Or.inr ⟨by decide, by decide, rfl, 0, mok_X9_fits, 66, rfl, rfl, by decide +kernel, sm_b2 187 rfl rfl, sm_b2 188 rfl rfl, sm_b2 189 rfl rfl⟩)
theorem vs_L_69 : sm_ent TL_.1 (.invokevirtual 69) 183 3 (sm_mt 183) := by
  rw [mt_183]
  exact Or.inr (Or.inr ⟨by decide, by decide, rfl, 0, mok_X10_fits, 69, rfl, rfl, by decide +kernel, sm_b6 42 rfl rfl, sm_b6 43 rfl rfl, sm_b6 44 rfl rfl⟩)
theorem vs_L_70 : sm_ent TL_.1 (.invokevirtual 70) 127 3 (sm_mt 127) := by
  rw [mt_127]
  exact Or.inr (Or.inr ⟨by decide, by decide, rfl, 0, mok_X9_tells, 70, rfl, rfl, by decide +kernel, sm_b2 209 rfl rfl, sm_b2 210 rfl rfl, sm_b2 211 rfl rfl⟩)
theorem vs_L_73 : sm_ent TL_.1 (.invokevirtual 73) 184 3 (sm_mt 184) := by
  rw [mt_184]
  exact Or.inr (Or.inr ⟨by decide, by decide, rfl, 0, mok_X10_tells, 73, rfl, rfl, by decide +kernel, sm_b6 54 rfl rfl, sm_b6 55 rfl rfl, sm_b6 56 rfl rfl⟩)
theorem vs_L_74 : sm_ent TL_.1 (.invokevirtual 74) 128 3 (sm_mt 128) := by
  rw [mt_128]
  exact Or.inr (Or.inr ⟨by decide, by decide, rfl, 0, mok_X9_strength, 74, rfl, rfl, by decide +kernel, sm_b2 214 rfl rfl, sm_b2 215 rfl rfl, sm_b2 216 rfl rfl⟩)
theorem vs_L_77 : sm_ent TL_.1 (.invokevirtual 77) 186 3 (sm_mt 186) := by
  rw [mt_186]
  exact Or.inr (Or.inr ⟨by decide, by decide, rfl, 0, mok_X10_strength, 77, rfl, rfl, by decide +kernel, sm_b6 58 rfl rfl, sm_b6 59 rfl rfl, sm_b6 60 rfl rfl⟩)
theorem vs_L_78 : sm_ent TL_.1 (.invokevirtual 78) 130 2 (sm_mt 130) := by
  rw [mt_130]
  exact Or.inr (Or.inr ⟨by decide, by decide, rfl, 0, mok_X9_fitting, 78, rfl, rfl, by decide +kernel, sm_b3 5 rfl rfl, sm_b3 6 rfl rfl, sm_b3 7 rfl rfl⟩)
theorem vs_L_81 : sm_ent TL_.1 (.invokevirtual 81) 188 2 (sm_mt 188) := by
  rw [mt_188]
  exact Or.inr (Or.inr ⟨by decide, by decide, rfl, 0, mok_X10_fitting, 81, rfl, rfl, by decide +kernel, sm_b6 66 rfl rfl, sm_b6 67 rfl rfl, sm_b6 68 rfl rfl⟩)
theorem vs_L_82 : sm_ent TL_.1 (.invokevirtual 82) 131 3 (sm_mt 131) := by
  rw [mt_131]
  exact Or.inr (Or.inr ⟨by decide, by decide, rfl, 0, mok_X9_fit, 82, rfl, rfl, by decide +kernel, sm_b3 19 rfl rfl, sm_b3 20 rfl rfl, sm_b3 21 rfl rfl⟩)
theorem vs_L_85 : sm_ent TL_.1 (.invokevirtual 85) 189 3 (sm_mt 189) := by
  rw [mt_189]
  exact Or.inr (Or.inr ⟨by decide, by decide, rfl, 0, mok_X10_fit, 85, rfl, rfl, by decide +kernel, sm_b6 78 rfl rfl, sm_b6 79 rfl rfl, sm_b6 80 rfl rfl⟩)
theorem vs_L_86 : sm_ent TL_.1 (.invokevirtual 86) 133 2 (sm_mt 133) := by
  rw [mt_133]
  exact Or.inr (Or.inr ⟨by decide, by decide, rfl, 0, mok_X9_best, 86, rfl, rfl, by decide +kernel, sm_b3 26 rfl rfl, sm_b3 27 rfl rfl, sm_b3 28 rfl rfl⟩)
theorem vs_L_89 : sm_ent TL_.1 (.invokevirtual 89) 196 2 (sm_mt 196) := by
  rw [mt_196]
  exact Or.inr (Or.inr ⟨by decide, by decide, rfl, 0, mok_X10_best, 89, rfl, rfl, by decide +kernel, sm_b6 82 rfl rfl, sm_b6 83 rfl rfl, sm_b6 84 rfl rfl⟩)
theorem vs_L_90 : sm_ent TL_.1 (.invokevirtual 90) 134 2 (sm_mt 134) := by
  rw [mt_134]
  exact Or.inr (Or.inr ⟨by decide, by decide, rfl, 0, mok_X9_sum, 90, rfl, rfl, by decide +kernel, sm_b3 119 rfl rfl, sm_b3 120 rfl rfl, sm_b3 121 rfl rfl⟩)
theorem vs_L_93 : sm_ent TL_.1 (.invokevirtual 93) 197 2 (sm_mt 197) := by
  rw [mt_197]
  exact Or.inr (Or.inr ⟨by decide, by decide, rfl, 0, mok_X10_sum, 93, rfl, rfl, by decide +kernel, sm_b6 114 rfl rfl, sm_b6 115 rfl rfl, sm_b6 116 rfl rfl⟩)
theorem vs_L_94 : sm_ent TL_.1 (.invokevirtual 94) 135 2 (sm_mt 135) := by
  rw [mt_135]
  exact Or.inr (Or.inr ⟨by decide, by decide, rfl, 0, mok_X9_also, 94, rfl, rfl, by decide +kernel, sm_b3 132 rfl rfl, sm_b3 133 rfl rfl, sm_b3 134 rfl rfl⟩)
theorem vs_L_97 : sm_ent TL_.1 (.invokevirtual 97) 198 2 (sm_mt 198) := by
  rw [mt_198]
  exact Or.inr (Or.inr ⟨by decide, by decide, rfl, 0, mok_X10_also, 97, rfl, rfl, by decide +kernel, sm_b6 118 rfl rfl, sm_b6 119 rfl rfl, sm_b6 120 rfl rfl⟩)
theorem vs_L_98 : sm_ent TL_.1 (.invokevirtual 98) 137 3 (sm_mt 137) := by
  rw [mt_137]
  exact Or.inr (Or.inr ⟨by decide, by decide, rfl, 0, mok_X9_group, 98, rfl, rfl, by decide +kernel, sm_b3 143 rfl rfl, sm_b3 144 rfl rfl, sm_b3 145 rfl rfl⟩)
theorem vs_L_101 : sm_ent TL_.1 (.invokevirtual 101) 199 3 (sm_mt 199) := by
  rw [mt_199]
  exact Or.inr (Or.inr ⟨by decide, by decide, rfl, 0, mok_X10_group, 101, rfl, rfl, by decide +kernel, sm_b6 122 rfl rfl, sm_b6 123 rfl rfl, sm_b6 124 rfl rfl⟩)
theorem vs_L_102 : sm_ent TL_.1 (.invokevirtual 102) 138 3 (sm_mt 138) := by
  rw [mt_138]
  exact Or.inr (Or.inr ⟨by decide, by decide, rfl, 0, mok_X9_like, 102, rfl, rfl, by decide +kernel, sm_b3 155 rfl rfl, sm_b3 156 rfl rfl, sm_b3 157 rfl rfl⟩)
theorem vs_L_105 : sm_ent TL_.1 (.invokevirtual 105) 200 3 (sm_mt 200) := by
  rw [mt_200]
  exact Or.inr (Or.inr ⟨by decide, by decide, rfl, 0, mok_X10_like, 105, rfl, rfl, by decide +kernel, sm_b6 126 rfl rfl, sm_b6 127 rfl rfl, sm_b6 128 rfl rfl⟩)
theorem vs_L_106 : sm_ent TL_.1 (.invokevirtual 106) 139 3 (sm_mt 139) := by
  rw [mt_139]
  exact Or.inr (Or.inr ⟨by decide, by decide, rfl, 0, mok_X9_parts, 106, rfl, rfl, by decide +kernel, sm_b3 168 rfl rfl, sm_b3 169 rfl rfl, sm_b3 170 rfl rfl⟩)
theorem vs_L_109 : sm_ent TL_.1 (.invokevirtual 109) 203 3 (sm_mt 203) := by
  rw [mt_203]
  exact Or.inr (Or.inr ⟨by decide, by decide, rfl, 0, mok_X10_parts, 109, rfl, rfl, by decide +kernel, sm_b6 130 rfl rfl, sm_b6 131 rfl rfl, sm_b6 132 rfl rfl⟩)
theorem vs_L_110 : sm_ent TL_.1 (.invokevirtual 110) 140 2 (sm_mt 140) := by
  rw [mt_140]
  exact Or.inr (Or.inr ⟨by decide, by decide, rfl, 0, mok_X9_ask, 110, rfl, rfl, by decide +kernel, sm_b3 181 rfl rfl, sm_b3 182 rfl rfl, sm_b3 183 rfl rfl⟩)
theorem vs_L_113 : sm_ent TL_.1 (.invokevirtual 113) 204 2 (sm_mt 204) := by
  rw [mt_204]
  exact Or.inr (Or.inr ⟨by decide, by decide, rfl, 0, mok_X10_ask, 113, rfl, rfl, by decide +kernel, sm_b6 142 rfl rfl, sm_b6 143 rfl rfl, sm_b6 144 rfl rfl⟩)
theorem vs_L_114 : sm_ent TL_.1 (.invokevirtual 114) 141 2 (sm_mt 141) := by
  rw [mt_141]
  exact Or.inr (Or.inr ⟨by decide, by decide, rfl, 0, mok_X9_fewest, 114, rfl, rfl, by decide +kernel, sm_b3 190 rfl rfl, sm_b3 191 rfl rfl, sm_b3 192 rfl rfl⟩)
theorem vs_L_117 : sm_ent TL_.1 (.invokevirtual 117) 207 2 (sm_mt 207) := by
  rw [mt_207]
  exact Or.inr (Or.inr ⟨by decide, by decide, rfl, 0, mok_X10_fewest, 117, rfl, rfl, by decide +kernel, sm_b6 146 rfl rfl, sm_b6 147 rfl rfl, sm_b6 148 rfl rfl⟩)
theorem vs_L_118 : sm_ent TL_.1 (.invokevirtual 118) 142 3 (sm_mt 142) := by
  rw [mt_142]
  exact Or.inr (Or.inr ⟨by decide, by decide, rfl, 0, mok_X9_claim, 118, rfl, rfl, by decide +kernel, sm_b3 235 rfl rfl, sm_b3 236 rfl rfl, sm_b3 237 rfl rfl⟩)
theorem vs_L_121 : sm_ent TL_.1 (.invokevirtual 121) 210 3 (sm_mt 210) := by
  rw [mt_210]
  exact Or.inr (Or.inr ⟨by decide, by decide, rfl, 0, mok_X10_claim, 121, rfl, rfl, by decide +kernel, sm_b6 158 rfl rfl, sm_b6 159 rfl rfl, sm_b6 160 rfl rfl⟩)
theorem vs_L_122 : sm_ent TL_.1 (.invokevirtual 122) 143 4 (sm_mt 143) := by
  rw [mt_143]
  exact Or.inr (Or.inr ⟨by decide, by decide, rfl, 0, mok_X9_prove, 122, rfl, rfl, by decide +kernel, sm_b4 21 rfl rfl, sm_b4 22 rfl rfl, sm_b4 23 rfl rfl⟩)
theorem vs_L_125 : sm_ent TL_.1 (.invokevirtual 125) 211 4 (sm_mt 211) := by
  rw [mt_211]
  exact Or.inr (Or.inr ⟨by decide, by decide, rfl, 0, mok_X10_prove, 125, rfl, rfl, by decide +kernel, sm_b6 166 rfl rfl, sm_b6 167 rfl rfl, sm_b6 168 rfl rfl⟩)
theorem vs_L_126 : sm_ent TL_.1 (.invokevirtual 126) 144 2 (sm_mt 144) := by
  rw [mt_144]
  exact Or.inr (Or.inr ⟨by decide, by decide, rfl, 0, mok_X9_give, 126, rfl, rfl, by decide +kernel, sm_b4 46 rfl rfl, sm_b4 47 rfl rfl, sm_b4 48 rfl rfl⟩)
theorem vs_L_129 : sm_ent TL_.1 (.invokevirtual 129) 214 2 (sm_mt 214) := by
  rw [mt_214]
  exact Or.inr (Or.inr ⟨by decide, by decide, rfl, 0, mok_X10_give, 129, rfl, rfl, by decide +kernel, sm_b6 170 rfl rfl, sm_b6 171 rfl rfl, sm_b6 172 rfl rfl⟩)
theorem vs_L_130 : sm_ent TL_.1 (.invokevirtual 130) 145 2 (sm_mt 145) := by
  rw [mt_145]
  exact Or.inr (Or.inr ⟨by decide, by decide, rfl, 0, mok_X9_withdraw, 130, rfl, rfl, by decide +kernel, sm_b4 112 rfl rfl, sm_b4 113 rfl rfl, sm_b4 114 rfl rfl⟩)
theorem vs_L_134 : sm_ent TL_.1 (.invokevirtual 134) 215 2 (sm_mt 215) := by
  rw [mt_215]
  exact Or.inr (Or.inr ⟨by decide, by decide, rfl, 0, mok_X10_withdraw, 134, rfl, rfl, by decide +kernel, sm_b6 186 rfl rfl, sm_b6 187 rfl rfl, sm_b6 188 rfl rfl⟩)
theorem vs_L_135 : sm_ent TL_.1 (.invokevirtual 135) 146 2 (sm_mt 146) := by
  rw [mt_146]
  exact Or.inr (Or.inr ⟨by decide, by decide, rfl, 0, mok_X9_close, 135, rfl, rfl, by decide +kernel, sm_b4 116 rfl rfl, sm_b4 117 rfl rfl, sm_b4 118 rfl rfl⟩)
theorem vs_L_138 : sm_ent TL_.1 (.invokevirtual 138) 216 2 (sm_mt 216) := by
  rw [mt_216]
  exact Or.inr (Or.inr ⟨by decide, by decide, rfl, 0, mok_X10_close, 138, rfl, rfl, by decide +kernel, sm_b6 190 rfl rfl, sm_b6 191 rfl rfl, sm_b6 192 rfl rfl⟩)
theorem vs_L_144 : sm_ent TL_.1 (.invokevirtual 144) 217 3 (sm_mt 217) := by
  rw [mt_217]
  exact Or.inr (Or.inr ⟨by decide, by decide, rfl, 0, mok_X10_claimed, 144, rfl, rfl, by decide +kernel, sm_b6 194 rfl rfl, sm_b6 195 rfl rfl, sm_b6 196 rfl rfl⟩)
theorem vs_L_145 : sm_ent TL_.1 (.invokevirtual 145) 160 1 (sm_mt 160) := by
  rw [mt_160]
  exact Or.inr (Or.inr ⟨by decide, by decide, rfl, 0, mok_X10_thrown, 145, rfl, rfl, by decide +kernel, sm_b5 203 rfl rfl, sm_b5 204 rfl rfl, sm_b5 205 rfl rfl⟩)
theorem vs_L_149 : sm_ent TL_.1 (.invokevirtual 149) 149 3 (sm_mt 149) := by
  rw [mt_149]
  exact Or.inr (Or.inr ⟨by decide, by decide, rfl, 0, mok_X9_into, 149, rfl, rfl, by decide +kernel, sm_b4 120 rfl rfl, sm_b4 121 rfl rfl, sm_b4 122 rfl rfl⟩)
theorem vs_L_153 : sm_ent TL_.1 (.invokevirtual 153) 218 3 (sm_mt 218) := by
  rw [mt_218]
  exact Or.inr (Or.inr ⟨by decide, by decide, rfl, 0, mok_X10_into, 153, rfl, rfl, by decide +kernel, sm_b6 198 rfl rfl, sm_b6 199 rfl rfl, sm_b6 200 rfl rfl⟩)
theorem vs_L_156 : sm_ent TL_.1 (.invokevirtual 156) 220 3 (sm_mt 220) := by
  rw [mt_220]
  exact Or.inr (Or.inr ⟨by decide, by decide, rfl, 0, mok_X10_place, 156, rfl, rfl, by decide +kernel, sm_b6 202 rfl rfl, sm_b6 203 rfl rfl, sm_b6 204 rfl rfl⟩)
theorem vs_L_157 : sm_ent TL_.1 (.invokevirtual 157) 151 3 (sm_mt 151) := by
  rw [mt_151]
  exact Or.inr (Or.inr ⟨by decide, by decide, rfl, 0, mok_X9_days, 157, rfl, rfl, by decide +kernel, sm_b4 132 rfl rfl, sm_b4 133 rfl rfl, sm_b4 134 rfl rfl⟩)
theorem vs_L_160 : sm_ent TL_.1 (.invokevirtual 160) 221 3 (sm_mt 221) := by
  rw [mt_221]
  exact Or.inr (Or.inr ⟨by decide, by decide, rfl, 0, mok_X10_days, 160, rfl, rfl, by decide +kernel, sm_b6 210 rfl rfl, sm_b6 211 rfl rfl, sm_b6 212 rfl rfl⟩)
theorem vs_L_161 : sm_ent TL_.1 (.invokevirtual 161) 152 2 (sm_mt 152) := by
  rw [mt_152]
  exact Or.inr (Or.inr ⟨by decide, by decide, rfl, 0, mok_X9_day, 161, rfl, rfl, by decide +kernel, sm_b4 136 rfl rfl, sm_b4 137 rfl rfl, sm_b4 138 rfl rfl⟩)
theorem vs_L_164 : sm_ent TL_.1 (.invokevirtual 164) 223 2 (sm_mt 223) := by
  rw [mt_223]
  exact Or.inr (Or.inr ⟨by decide, by decide, rfl, 0, mok_X10_day, 164, rfl, rfl, by decide +kernel, sm_b6 214 rfl rfl, sm_b6 215 rfl rfl, sm_b6 216 rfl rfl⟩)
theorem vs_L_165 : sm_ent TL_.1 (.invokevirtual 165) 157 2 (sm_mt 157) := by
  rw [mt_157]
  exact Or.inr (Or.inr ⟨by decide, by decide, rfl, 0, mok_X9_count, 165, rfl, rfl, by decide +kernel, sm_b4 169 rfl rfl, sm_b4 170 rfl rfl, sm_b4 171 rfl rfl⟩)
theorem vs_L_168 : sm_ent TL_.1 (.invokevirtual 168) 224 2 (sm_mt 224) := by
  rw [mt_224]
  exact Or.inr (Or.inr ⟨by decide, by decide, rfl, 0, mok_X10_count, 168, rfl, rfl, by decide +kernel, sm_b6 222 rfl rfl, sm_b6 223 rfl rfl, sm_b6 224 rfl rfl⟩)
theorem vs_L_169 : sm_ent TL_.1 (.invokevirtual 169) 158 2 (sm_mt 158) := by
  rw [mt_158]
  exact Or.inr (Or.inr ⟨by decide, by decide, rfl, 0, mok_X9_gone, 169, rfl, rfl, by decide +kernel, sm_b4 196 rfl rfl, sm_b4 197 rfl rfl, sm_b4 198 rfl rfl⟩)
theorem vs_L_172 : sm_ent TL_.1 (.invokevirtual 172) 225 2 (sm_mt 225) := by
  rw [mt_225]
  exact Or.inr (Or.inr ⟨by decide, by decide, rfl, 0, mok_X10_gone, 172, rfl, rfl, by decide +kernel, sm_b6 226 rfl rfl, sm_b6 227 rfl rfl, sm_b6 228 rfl rfl⟩)
theorem v_tok_L : sm_tok sm_mt TL_ := ⟨v_lk ((fun _ h => absurd h List.not_mem_nil)), v_lk ((fun _ h => absurd h List.not_mem_nil)), v_lk ((fun _ h => absurd h List.not_mem_nil)), fun ix mid n h h2 => v_lk (P := fun ix q => ix < 100000 → sm_ent TL_.1 (.invokevirtual ix) q.1 q.2 (sm_mt q.1)) (List.forall_mem_cons.mpr ⟨(fun _ => vs_L_22), List.forall_mem_cons.mpr ⟨(fun _ => vs_L_26), List.forall_mem_cons.mpr ⟨(fun _ => vs_L_27), List.forall_mem_cons.mpr ⟨(fun _ => vs_L_31), List.forall_mem_cons.mpr ⟨(fun _ => vs_L_32), List.forall_mem_cons.mpr ⟨(fun _ => vs_L_35), List.forall_mem_cons.mpr ⟨(fun _ => vs_L_36), List.forall_mem_cons.mpr ⟨(fun _ => vs_L_40), List.forall_mem_cons.mpr ⟨(fun _ => vs_L_41), List.forall_mem_cons.mpr ⟨(fun _ => vs_L_45), List.forall_mem_cons.mpr ⟨(fun _ => vs_L_46), List.forall_mem_cons.mpr ⟨(fun _ => vs_L_50), List.forall_mem_cons.mpr ⟨(fun _ => vs_L_51), List.forall_mem_cons.mpr ⟨(fun _ => vs_L_55), List.forall_mem_cons.mpr ⟨(fun _ => vs_L_56), List.forall_mem_cons.mpr ⟨(fun _ => vs_L_60), List.forall_mem_cons.mpr ⟨(fun _ => vs_L_61), List.forall_mem_cons.mpr ⟨(fun _ => vs_L_65), List.forall_mem_cons.mpr ⟨(fun _ => vs_L_66), List.forall_mem_cons.mpr ⟨(fun _ => vs_L_69), List.forall_mem_cons.mpr ⟨(fun _ => vs_L_70), List.forall_mem_cons.mpr ⟨(fun _ => vs_L_73), List.forall_mem_cons.mpr ⟨(fun _ => vs_L_74), List.forall_mem_cons.mpr ⟨(fun _ => vs_L_77), List.forall_mem_cons.mpr ⟨(fun _ => vs_L_78), List.forall_mem_cons.mpr ⟨(fun _ => vs_L_81), List.forall_mem_cons.mpr ⟨(fun _ => vs_L_82), List.forall_mem_cons.mpr ⟨(fun _ => vs_L_85), List.forall_mem_cons.mpr ⟨(fun _ => vs_L_86), List.forall_mem_cons.mpr ⟨(fun _ => vs_L_89), List.forall_mem_cons.mpr ⟨(fun _ => vs_L_90), List.forall_mem_cons.mpr ⟨(fun _ => vs_L_93), List.forall_mem_cons.mpr ⟨(fun _ => vs_L_94), List.forall_mem_cons.mpr ⟨(fun _ => vs_L_97), List.forall_mem_cons.mpr ⟨(fun _ => vs_L_98), List.forall_mem_cons.mpr ⟨(fun _ => vs_L_101), List.forall_mem_cons.mpr ⟨(fun _ => vs_L_102), List.forall_mem_cons.mpr ⟨(fun _ => vs_L_105), List.forall_mem_cons.mpr ⟨(fun _ => vs_L_106), List.forall_mem_cons.mpr ⟨(fun _ => vs_L_109), List.forall_mem_cons.mpr ⟨(fun _ => vs_L_110), List.forall_mem_cons.mpr ⟨(fun _ => vs_L_113), List.forall_mem_cons.mpr ⟨(fun _ => vs_L_114), List.forall_mem_cons.mpr ⟨(fun _ => vs_L_117), List.forall_mem_cons.mpr ⟨(fun _ => vs_L_118), List.forall_mem_cons.mpr ⟨(fun _ => vs_L_121), List.forall_mem_cons.mpr ⟨(fun _ => vs_L_122), List.forall_mem_cons.mpr ⟨(fun _ => vs_L_125), List.forall_mem_cons.mpr ⟨(fun _ => vs_L_126), List.forall_mem_cons.mpr ⟨(fun _ => vs_L_129), List.forall_mem_cons.mpr ⟨(fun _ => vs_L_130), List.forall_mem_cons.mpr ⟨(fun _ => vs_L_134), List.forall_mem_cons.mpr ⟨(fun _ => vs_L_135), List.forall_mem_cons.mpr ⟨(fun _ => vs_L_138), List.forall_mem_cons.mpr ⟨(fun _ => vs_L_144), List.forall_mem_cons.mpr ⟨(fun _ => vs_L_145), List.forall_mem_cons.mpr ⟨(fun _ => vs_L_149), List.forall_mem_cons.mpr ⟨(fun _ => vs_L_153), List.forall_mem_cons.mpr ⟨(fun _ => vs_L_156), List.forall_mem_cons.mpr ⟨(fun _ => vs_L_157), List.forall_mem_cons.mpr ⟨(fun _ => vs_L_160), List.forall_mem_cons.mpr ⟨(fun _ => vs_L_161), List.forall_mem_cons.mpr ⟨(fun _ => vs_L_164), List.forall_mem_cons.mpr ⟨(fun _ => vs_L_165), List.forall_mem_cons.mpr ⟨(fun _ => vs_L_168), List.forall_mem_cons.mpr ⟨(fun _ => vs_L_169), List.forall_mem_cons.mpr ⟨(fun _ => vs_L_172), (fun _ h => absurd h List.not_mem_nil)⟩⟩⟩⟩⟩⟩⟩⟩⟩⟩⟩⟩⟩⟩⟩⟩⟩⟩⟩⟩⟩⟩⟩⟩⟩⟩⟩⟩⟩⟩⟩⟩⟩⟩⟩⟩⟩⟩⟩⟩⟩⟩⟩⟩⟩⟩⟩⟩⟩⟩⟩⟩⟩⟩⟩⟩⟩⟩⟩⟩⟩⟩⟩⟩⟩⟩⟩) ix (mid, n) h h2, fun ix mid n h => v_lk (P := fun ix q => ∀ j, ix = j + 100000 → sm_ent TL_.1 (.invokestatic j) q.1 q.2 (sm_mt q.1)) (List.forall_mem_cons.mpr ⟨(fun j (h : 22 = j + 100000) => absurd h (by omega)), List.forall_mem_cons.mpr ⟨(fun j (h : 26 = j + 100000) => absurd h (by omega)), List.forall_mem_cons.mpr ⟨(fun j (h : 27 = j + 100000) => absurd h (by omega)), List.forall_mem_cons.mpr ⟨(fun j (h : 31 = j + 100000) => absurd h (by omega)), List.forall_mem_cons.mpr ⟨(fun j (h : 32 = j + 100000) => absurd h (by omega)), List.forall_mem_cons.mpr ⟨(fun j (h : 35 = j + 100000) => absurd h (by omega)), List.forall_mem_cons.mpr ⟨(fun j (h : 36 = j + 100000) => absurd h (by omega)), List.forall_mem_cons.mpr ⟨(fun j (h : 40 = j + 100000) => absurd h (by omega)), List.forall_mem_cons.mpr ⟨(fun j (h : 41 = j + 100000) => absurd h (by omega)), List.forall_mem_cons.mpr ⟨(fun j (h : 45 = j + 100000) => absurd h (by omega)), List.forall_mem_cons.mpr ⟨(fun j (h : 46 = j + 100000) => absurd h (by omega)), List.forall_mem_cons.mpr ⟨(fun j (h : 50 = j + 100000) => absurd h (by omega)), List.forall_mem_cons.mpr ⟨(fun j (h : 51 = j + 100000) => absurd h (by omega)), List.forall_mem_cons.mpr ⟨(fun j (h : 55 = j + 100000) => absurd h (by omega)), List.forall_mem_cons.mpr ⟨(fun j (h : 56 = j + 100000) => absurd h (by omega)), List.forall_mem_cons.mpr ⟨(fun j (h : 60 = j + 100000) => absurd h (by omega)), List.forall_mem_cons.mpr ⟨(fun j (h : 61 = j + 100000) => absurd h (by omega)), List.forall_mem_cons.mpr ⟨(fun j (h : 65 = j + 100000) => absurd h (by omega)), List.forall_mem_cons.mpr ⟨(fun j (h : 66 = j + 100000) => absurd h (by omega)), List.forall_mem_cons.mpr ⟨(fun j (h : 69 = j + 100000) => absurd h (by omega)), List.forall_mem_cons.mpr ⟨(fun j (h : 70 = j + 100000) => absurd h (by omega)), List.forall_mem_cons.mpr ⟨(fun j (h : 73 = j + 100000) => absurd h (by omega)), List.forall_mem_cons.mpr ⟨(fun j (h : 74 = j + 100000) => absurd h (by omega)), List.forall_mem_cons.mpr ⟨(fun j (h : 77 = j + 100000) => absurd h (by omega)), List.forall_mem_cons.mpr ⟨(fun j (h : 78 = j + 100000) => absurd h (by omega)), List.forall_mem_cons.mpr ⟨(fun j (h : 81 = j + 100000) => absurd h (by omega)), List.forall_mem_cons.mpr ⟨(fun j (h : 82 = j + 100000) => absurd h (by omega)), List.forall_mem_cons.mpr ⟨(fun j (h : 85 = j + 100000) => absurd h (by omega)), List.forall_mem_cons.mpr ⟨(fun j (h : 86 = j + 100000) => absurd h (by omega)), List.forall_mem_cons.mpr ⟨(fun j (h : 89 = j + 100000) => absurd h (by omega)), List.forall_mem_cons.mpr ⟨(fun j (h : 90 = j + 100000) => absurd h (by omega)), List.forall_mem_cons.mpr ⟨(fun j (h : 93 = j + 100000) => absurd h (by omega)), List.forall_mem_cons.mpr ⟨(fun j (h : 94 = j + 100000) => absurd h (by omega)), List.forall_mem_cons.mpr ⟨(fun j (h : 97 = j + 100000) => absurd h (by omega)), List.forall_mem_cons.mpr ⟨(fun j (h : 98 = j + 100000) => absurd h (by omega)), List.forall_mem_cons.mpr ⟨(fun j (h : 101 = j + 100000) => absurd h (by omega)), List.forall_mem_cons.mpr ⟨(fun j (h : 102 = j + 100000) => absurd h (by omega)), List.forall_mem_cons.mpr ⟨(fun j (h : 105 = j + 100000) => absurd h (by omega)), List.forall_mem_cons.mpr ⟨(fun j (h : 106 = j + 100000) => absurd h (by omega)), List.forall_mem_cons.mpr ⟨(fun j (h : 109 = j + 100000) => absurd h (by omega)), List.forall_mem_cons.mpr ⟨(fun j (h : 110 = j + 100000) => absurd h (by omega)), List.forall_mem_cons.mpr ⟨(fun j (h : 113 = j + 100000) => absurd h (by omega)), List.forall_mem_cons.mpr ⟨(fun j (h : 114 = j + 100000) => absurd h (by omega)), List.forall_mem_cons.mpr ⟨(fun j (h : 117 = j + 100000) => absurd h (by omega)), List.forall_mem_cons.mpr ⟨(fun j (h : 118 = j + 100000) => absurd h (by omega)), List.forall_mem_cons.mpr ⟨(fun j (h : 121 = j + 100000) => absurd h (by omega)), List.forall_mem_cons.mpr ⟨(fun j (h : 122 = j + 100000) => absurd h (by omega)), List.forall_mem_cons.mpr ⟨(fun j (h : 125 = j + 100000) => absurd h (by omega)), List.forall_mem_cons.mpr ⟨(fun j (h : 126 = j + 100000) => absurd h (by omega)), List.forall_mem_cons.mpr ⟨(fun j (h : 129 = j + 100000) => absurd h (by omega)), List.forall_mem_cons.mpr ⟨(fun j (h : 130 = j + 100000) => absurd h (by omega)), List.forall_mem_cons.mpr ⟨(fun j (h : 134 = j + 100000) => absurd h (by omega)), List.forall_mem_cons.mpr ⟨(fun j (h : 135 = j + 100000) => absurd h (by omega)), List.forall_mem_cons.mpr ⟨(fun j (h : 138 = j + 100000) => absurd h (by omega)), List.forall_mem_cons.mpr ⟨(fun j (h : 144 = j + 100000) => absurd h (by omega)), List.forall_mem_cons.mpr ⟨(fun j (h : 145 = j + 100000) => absurd h (by omega)), List.forall_mem_cons.mpr ⟨(fun j (h : 149 = j + 100000) => absurd h (by omega)), List.forall_mem_cons.mpr ⟨(fun j (h : 153 = j + 100000) => absurd h (by omega)), List.forall_mem_cons.mpr ⟨(fun j (h : 156 = j + 100000) => absurd h (by omega)), List.forall_mem_cons.mpr ⟨(fun j (h : 157 = j + 100000) => absurd h (by omega)), List.forall_mem_cons.mpr ⟨(fun j (h : 160 = j + 100000) => absurd h (by omega)), List.forall_mem_cons.mpr ⟨(fun j (h : 161 = j + 100000) => absurd h (by omega)), List.forall_mem_cons.mpr ⟨(fun j (h : 164 = j + 100000) => absurd h (by omega)), List.forall_mem_cons.mpr ⟨(fun j (h : 165 = j + 100000) => absurd h (by omega)), List.forall_mem_cons.mpr ⟨(fun j (h : 168 = j + 100000) => absurd h (by omega)), List.forall_mem_cons.mpr ⟨(fun j (h : 169 = j + 100000) => absurd h (by omega)), List.forall_mem_cons.mpr ⟨(fun j (h : 172 = j + 100000) => absurd h (by omega)), (fun _ h => absurd h List.not_mem_nil)⟩⟩⟩⟩⟩⟩⟩⟩⟩⟩⟩⟩⟩⟩⟩⟩⟩⟩⟩⟩⟩⟩⟩⟩⟩⟩⟩⟩⟩⟩⟩⟩⟩⟩⟩⟩⟩⟩⟩⟩⟩⟩⟩⟩⟩⟩⟩⟩⟩⟩⟩⟩⟩⟩⟩⟩⟩⟩⟩⟩⟩⟩⟩⟩⟩⟩⟩) (ix + 100000) (mid, n) h ix rfl⟩
theorem v_tok_J6 : sm_tok sm_mt TJ6_ := ⟨v_lk ((fun _ h => absurd h List.not_mem_nil)), v_lk (List.forall_mem_cons.mpr ⟨sm_b3 218 rfl rfl, List.forall_mem_cons.mpr ⟨sm_b3 219 rfl rfl, List.forall_mem_cons.mpr ⟨sm_b3 220 rfl rfl, (fun _ h => absurd h List.not_mem_nil)⟩⟩⟩), v_lk ((fun _ h => absurd h List.not_mem_nil)), fun ix mid n h h2 => v_lk (P := fun ix q => ix < 100000 → sm_ent TJ6_.1 (.invokevirtual ix) q.1 q.2 (sm_mt q.1)) ((fun _ h => absurd h List.not_mem_nil)) ix (mid, n) h h2, fun ix mid n h => v_lk (P := fun ix q => ∀ j, ix = j + 100000 → sm_ent TJ6_.1 (.invokestatic j) q.1 q.2 (sm_mt q.1)) ((fun _ h => absurd h List.not_mem_nil)) (ix + 100000) (mid, n) h ix rfl⟩
theorem v_tok_J13 : sm_tok sm_mt TJ13_ := ⟨v_lk ((fun _ h => absurd h List.not_mem_nil)), v_lk ((fun _ h => absurd h List.not_mem_nil)), v_lk (List.forall_mem_cons.mpr ⟨sm_b3 16 rfl rfl, List.forall_mem_cons.mpr ⟨sm_b3 17 rfl rfl, List.forall_mem_cons.mpr ⟨sm_b3 18 rfl rfl, (fun _ h => absurd h List.not_mem_nil)⟩⟩⟩), fun ix mid n h h2 => v_lk (P := fun ix q => ix < 100000 → sm_ent TJ13_.1 (.invokevirtual ix) q.1 q.2 (sm_mt q.1)) ((fun _ h => absurd h List.not_mem_nil)) ix (mid, n) h h2, fun ix mid n h => v_lk (P := fun ix q => ∀ j, ix = j + 100000 → sm_ent TJ13_.1 (.invokestatic j) q.1 q.2 (sm_mt q.1)) ((fun _ h => absurd h List.not_mem_nil)) (ix + 100000) (mid, n) h ix rfl⟩
