/-! WHAT THE SMALL MACHINE'S STEPS MEAN: each is a row of the kit. -/
def sm_tr (ad : Nat → Nat) : Value → Value
  | .ref k => .ref (ad k)
  | v => v
def sm_fv (ad : Nat → Nat) (g : sm_G) (p c d : Nat) : Value := if d = 1 then .int (rS g p c) else .ref (ad (d - 2))
def sm_fs (ad : Nat → Nat) (g : sm_G) (p ci : Nat) (ds : List Nat) : List Value := ds.zipIdx.map (fun q => sm_fv ad g p (ci * 100 + q.2) q.1)
def sm_e (ad : Nat → Nat) (cA : Nat → ClassId) (g : sm_G) (p : Nat) : ((Nat × List Nat) ⊕ (Nat × Nat)) → va_E
  | .inl (ci, ds) => .inr (ci, sm_fs ad g p ci ds)
  | .inr (ty, n) => .inl (cA ty, n, if ty = 3 then .inr (.inl (rL g p)) else .inl (rA g p))
def sm_pic (lay : List ((Nat × List Nat) ⊕ (Nat × Nat))) (ad : Nat → Nat) (cA : Nat → ClassId) (g : sm_G) : va_W := lay.zipIdx.map (fun q => (ad q.2, sm_e ad cA g q.2 q.1))
def sm_tys (cA : Nat → ClassId) : List (ClassId × FieldType) := [(cA 1, .int), (cA 2, .boolean), (cA 3, .long)]
def sm_as (ad : Nat → Nat) : Nat → sm_Lo → List (Nat × Value)
  | _, [] => []
  | i, none :: l => sm_as ad (i + 1) l
  | i, some v :: l => (i, sm_tr ad v) :: sm_as ad (i + 1) l
theorem sm_as_mem (ad : Nat → Nat) : ∀ (l : sm_Lo) (i : Nat) (q : Nat × Value), q ∈ sm_as ad i l ↔ ∃ k v, l[k]? = some (some v) ∧ q = (i + k, sm_tr ad v) := by
  intro l
  induction l with
  | nil => intro i q; simp [sm_as]
  | cons o l ih =>
    intro i q
    cases o with
    | none =>
      rw [sm_as, ih]
      constructor
      · rintro ⟨k, v, h, rfl⟩
        exact ⟨k + 1, v, by simpa using h, by simp; omega⟩
      · rintro ⟨k, v, h, rfl⟩
        cases k with
        | zero => simp at h
        | succ k => exact ⟨k, v, by simpa using h, by simp; omega⟩
    | some w =>
      rw [sm_as, List.mem_cons, ih]
      constructor
      · rintro (rfl | ⟨k, v, h, rfl⟩)
        · exact ⟨0, w, by simp, by simp⟩
        · exact ⟨k + 1, v, by simpa using h, by simp; omega⟩
      · rintro ⟨k, v, h, rfl⟩
        cases k with
        | zero => left; simp at h; subst h; simp
        | succ k => right; exact ⟨k, v, by simpa using h, by simp; omega⟩
/-- locals hold no double -/
def sm_nd2 (ls : sm_Lo) : Prop := ∀ (k : Nat) (v : Value), ls[k]? = some (some v) → ∀ x, v ≠ .double x
def sm_lv (ad : Nat → Nat) (a : Array Slot) (nL : Nat) (ls : sm_Lo) : Prop := (ls.length = nL ∧ sm_nd2 ls) ∧ lv_has a nL (sm_as ad 0 ls)
theorem sm_lv_at {ad : Nat → Nat} {a : Array Slot} {nL : Nat} {ls : sm_Lo} (h : sm_lv ad a nL ls) {k : Nat} {v : Value} (hk : ls[k]? = some (some v)) : a[k]? = some (.val (sm_tr ad v)) :=
  h.2.2.2 (k, sm_tr ad v) ((sm_as_mem ad ls 0 _).mpr ⟨k, v, hk, by simp⟩)
theorem sm_st1_len (ls : sm_Lo) : ∀ (k : Nat) (v : Value), (sm_st1 ls k v).length = ls.length := by
  induction ls with
  | nil => intro k v; rfl
  | cons o l ih => intro k v; cases k with
    | zero => rfl
    | succ n => simp [sm_st1, ih]
theorem sm_st1_get (ls : sm_Lo) : ∀ (k : Nat) (v : Value) (j : Nat), (sm_st1 ls k v)[j]? = if j = k then (if k < ls.length then some (some v) else none) else if j + 1 = k then (ls[j]?).map sm_un else ls[j]? := by
  induction ls with
  | nil => intro k v j; simp [sm_st1]
  | cons o l ih =>
    intro k v j
    cases k with
    | zero => cases j with
      | zero => simp [sm_st1]
      | succ j => simp [sm_st1]
    | succ n => cases j with
      | zero => by_cases hn : n = 0
                · subst hn; simp [sm_st1]
                · have : ¬ 1 = n + 1 := by omega
                  simp [sm_st1, hn]
      | succ j => simp [sm_st1, ih]
theorem sm_un_some {o : Option Value} {v : Value} (h : sm_un o = some v) : o = some v ∧ v.category ≠ 2 ∨ (o = some v ∧ ∃ x, v = .double x) := by
  cases o with
  | none => simp [sm_un] at h
  | some w => cases w <;> simp [sm_un] at h <;> subst h <;> simp [Value.category]
theorem sm_tr_cat (ad : Nat → Nat) (v : Value) : (sm_tr ad v).category = v.category := by cases v <;> rfl
theorem sm_st1_sub {ad : Nat → Nat} {ls : sm_Lo} {k : Nat} {v : Value} (hd : sm_nd2 ls) : ∀ q ∈ sm_as ad 0 (sm_st1 ls k v), q ∈ (k, sm_tr ad v) :: (sm_as ad 0 ls).filter (fun q => !(q.1 == k) && !(q.1 + 1 == k && q.2.category == 2)) := by
  intro q hq
  obtain ⟨j, w, h, rfl⟩ := (sm_as_mem ad _ 0 q).mp hq
  rw [sm_st1_get] at h
  simp only [Nat.zero_add]
  by_cases h1 : j = k
  · subst h1
    rw [if_pos rfl] at h
    by_cases h2 : j < ls.length
    · rw [if_pos h2] at h; simp at h; subst h; exact List.mem_cons_self
    · rw [if_neg h2] at h; cases h
  · rw [if_neg h1] at h
    refine List.mem_cons_of_mem _ (List.mem_filter.mpr ?_)
    by_cases h2 : j + 1 = k
    · rw [if_pos h2] at h
      obtain ⟨o, ho, hu⟩ := Option.map_eq_some_iff.mp h
      have hx := sm_un_some hu
      have ho' : o = some w := by rcases hx with ⟨a, _⟩ | ⟨a, _⟩ <;> exact a
      subst ho'
      refine ⟨(sm_as_mem ad _ 0 _).mpr ⟨j, w, ho, by simp⟩, ?_⟩
      have : w.category ≠ 2 := by
        rcases hx with ⟨_, b⟩ | ⟨_, x, rfl⟩
        · exact b
        · exact absurd rfl (hd j _ ho x)
      simp [h1, h2, sm_tr_cat, this]
    · rw [if_neg h2] at h
      exact ⟨(sm_as_mem ad _ 0 _).mpr ⟨j, w, h, by simp⟩, by simp [h1, h2]⟩
theorem sm_st2_len (ls : sm_Lo) : ∀ (k : Nat) (v : Value), (sm_st2 ls k v).length = ls.length := by
  induction ls with
  | nil => intro k v; rfl
  | cons o l ih => intro k v; cases k with
    | zero => cases l <;> rfl
    | succ n => simp [sm_st2, ih]
theorem sm_st2_get (ls : sm_Lo) : ∀ (k : Nat) (v : Value) (j : Nat), (sm_st2 ls k v)[j]? = if j = k then (if k < ls.length then some (some v) else none) else if j = k + 1 then (ls[j]?).map (fun _ => none) else if j + 1 = k then (ls[j]?).map sm_un else ls[j]? := by
  induction ls with
  | nil => intro k v j; simp [sm_st2]
  | cons o l ih =>
    intro k v j
    cases k with
    | zero => cases j with
      | zero => simp [sm_st2]
      | succ j => cases l with
        | nil => simp [sm_st2]
        | cons o2 r => cases j with
          | zero => simp [sm_st2]
          | succ j => simp [sm_st2]
    | succ n => cases j with
      | zero => by_cases hn : n = 0
                · subst hn; simp [sm_st2]
                · simp [sm_st2, hn]
      | succ j => simp [sm_st2, ih]
theorem sm_st2_sub {ad : Nat → Nat} {ls : sm_Lo} {k : Nat} {v : Value} (hd : sm_nd2 ls) : ∀ q ∈ sm_as ad 0 (sm_st2 ls k v), q ∈ (k, sm_tr ad v) :: (sm_as ad 0 ls).filter (fun q => !(q.1 == k) && (!(q.1 == k + 1) && !(q.1 + 1 == k && q.2.category == 2))) := by
  intro q hq
  obtain ⟨j, w, h, rfl⟩ := (sm_as_mem ad _ 0 q).mp hq
  rw [sm_st2_get] at h
  simp only [Nat.zero_add]
  by_cases h1 : j = k
  · subst h1
    rw [if_pos rfl] at h
    by_cases h2 : j < ls.length
    · rw [if_pos h2] at h; simp at h; subst h; exact List.mem_cons_self
    · rw [if_neg h2] at h; cases h
  · rw [if_neg h1] at h
    by_cases h3 : j = k + 1
    · rw [if_pos h3] at h
      obtain ⟨o, ho, hu⟩ := Option.map_eq_some_iff.mp h
      cases hu
    · rw [if_neg h3] at h
      refine List.mem_cons_of_mem _ (List.mem_filter.mpr ?_)
      by_cases h2 : j + 1 = k
      · rw [if_pos h2] at h
        obtain ⟨o, ho, hu⟩ := Option.map_eq_some_iff.mp h
        have hx := sm_un_some hu
        have ho' : o = some w := by rcases hx with ⟨a, _⟩ | ⟨a, _⟩ <;> exact a
        subst ho'
        refine ⟨(sm_as_mem ad _ 0 _).mpr ⟨j, w, ho, by simp⟩, ?_⟩
        have : w.category ≠ 2 := by
          rcases hx with ⟨_, b⟩ | ⟨_, x, rfl⟩
          · exact b
          · exact absurd rfl (hd j _ ho x)
        simp [h1, h2, h3, sm_tr_cat, this]
      · rw [if_neg h2] at h
        exact ⟨(sm_as_mem ad _ 0 _).mpr ⟨j, w, h, by simp⟩, by simp [h1, h2, h3]⟩
theorem sm_st1_nd2 {ls : sm_Lo} {k : Nat} {v : Value} (hd : sm_nd2 ls) (hv : ∀ x, v ≠ .double x) : sm_nd2 (sm_st1 ls k v) := by
  intro j w h
  rw [sm_st1_get] at h
  split at h
  · split at h
    · simp at h; subst h; exact hv
    · cases h
  · split at h
    · obtain ⟨o, ho, hu⟩ := Option.map_eq_some_iff.mp h
      have ho' : o = some w := by rcases sm_un_some hu with ⟨a, _⟩ | ⟨a, _⟩ <;> exact a
      subst ho'; exact hd j w ho
    · exact hd j w h
theorem sm_st2_nd2 {ls : sm_Lo} {k : Nat} {v : Value} (hd : sm_nd2 ls) (hv : ∀ x, v ≠ .double x) : sm_nd2 (sm_st2 ls k v) := by
  intro j w h
  rw [sm_st2_get] at h
  split at h
  · split at h
    · simp at h; subst h; exact hv
    · cases h
  · split at h
    · obtain ⟨o, ho, hu⟩ := Option.map_eq_some_iff.mp h; cases hu
    · split at h
      · obtain ⟨o, ho, hu⟩ := Option.map_eq_some_iff.mp h
        have ho' : o = some w := by rcases sm_un_some hu with ⟨a, _⟩ | ⟨a, _⟩ <;> exact a
        subst ho'; exact hd j w ho
      · exact hd j w h
theorem lv_less {a : Array Slot} {nL : Nat} {l l' : List (Nat × Value)} (h : lv_has a nL l) (hs : ∀ q ∈ l', q ∈ l) : lv_has a nL l' := ⟨h.1, h.2.1, fun q hq => h.2.2 q (hs q hq)⟩
theorem sm_ldi_spec {f : Int32 → Prop} : ∀ {ls : sm_Lo} {k : Nat}, sm_ldi ls k f → ∃ x, ls[k]? = some (some (.int x)) ∧ f x := by
  intro ls
  induction ls with
  | nil => intro k h; exact h.elim
  | cons o l ih => intro k h; cases k with
    | zero => simp only [sm_ldi] at h; split at h
              · exact ⟨_, by simp, h⟩
              · exact h.elim
    | succ n => obtain ⟨x, a, b⟩ := ih h; exact ⟨x, by simpa using a, b⟩
theorem sm_ldl_spec {f : Int64 → Prop} : ∀ {ls : sm_Lo} {k : Nat}, sm_ldl ls k f → ∃ x, ls[k]? = some (some (.long x)) ∧ f x := by
  intro ls
  induction ls with
  | nil => intro k h; exact h.elim
  | cons o l ih => intro k h; cases k with
    | zero => simp only [sm_ldl] at h; split at h
              · exact ⟨_, by simp, h⟩
              · exact h.elim
    | succ n => obtain ⟨x, a, b⟩ := ih h; exact ⟨x, by simpa using a, b⟩
theorem sm_ldr_spec {f : Nat → Prop} : ∀ {ls : sm_Lo} {k : Nat}, sm_ldr ls k f → ∃ x, ls[k]? = some (some (.ref x)) ∧ f x := by
  intro ls
  induction ls with
  | nil => intro k h; exact h.elim
  | cons o l ih => intro k h; cases k with
    | zero => simp only [sm_ldr] at h; split at h
              · exact ⟨_, by simp, h⟩
              · exact h.elim
    | succ n => obtain ⟨x, a, b⟩ := ih h; exact ⟨x, by simpa using a, b⟩
theorem sm_i1_spec {st : List Value} {f : Int32 → List Value → Prop} (h : sm_i1 st f) : ∃ x r, st = .int x :: r ∧ f x r := by
  unfold sm_i1 at h; split at h
  · exact ⟨_, _, rfl, h⟩
  · exact h.elim
theorem sm_i2_spec {st : List Value} {f : Int32 → Int32 → List Value → Prop} (h : sm_i2 st f) : ∃ x y r, st = .int y :: .int x :: r ∧ f x y r := by
  unfold sm_i2 at h; split at h
  · exact ⟨_, _, _, rfl, h⟩
  · exact h.elim
theorem sm_l1_spec {st : List Value} {f : Int64 → List Value → Prop} (h : sm_l1 st f) : ∃ x r, st = .long x :: r ∧ f x r := by
  unfold sm_l1 at h; split at h
  · exact ⟨_, _, rfl, h⟩
  · exact h.elim
theorem sm_l2_spec {st : List Value} {f : Int64 → Int64 → List Value → Prop} (h : sm_l2 st f) : ∃ x y r, st = .long y :: .long x :: r ∧ f x y r := by
  unfold sm_l2 at h; split at h
  · exact ⟨_, _, _, rfl, h⟩
  · exact h.elim
theorem sm_li_spec {st : List Value} {f : Int64 → Int32 → List Value → Prop} (h : sm_li st f) : ∃ x y r, st = .int y :: .long x :: r ∧ f x y r := by
  unfold sm_li at h; split at h
  · exact ⟨_, _, _, rfl, h⟩
  · exact h.elim
theorem sm_r1_spec {st : List Value} {f : Nat → List Value → Prop} (h : sm_r1 st f) : ∃ x r, st = .ref x :: r ∧ f x r := by
  unfold sm_r1 at h; split at h
  · exact ⟨_, _, rfl, h⟩
  · exact h.elim
theorem sm_ir_spec {st : List Value} {f : Int32 → Nat → List Value → Prop} (h : sm_ir st f) : ∃ x p r, st = .int x :: .ref p :: r ∧ f x p r := by
  unfold sm_ir at h; split at h
  · exact ⟨_, _, _, rfl, h⟩
  · exact h.elim
theorem sm_iir_spec {st : List Value} {f : Int32 → Int32 → Nat → List Value → Prop} (h : sm_iir st f) : ∃ x i p r, st = .int x :: .int i :: .ref p :: r ∧ f x i p r := by
  unfold sm_iir at h; split at h
  · exact ⟨_, _, _, _, rfl, h⟩
  · exact h.elim
theorem sm_lir_spec {st : List Value} {f : Int64 → Int32 → Nat → List Value → Prop} (h : sm_lir st f) : ∃ x i p r, st = .long x :: .int i :: .ref p :: r ∧ f x i p r := by
  unfold sm_lir at h; split at h
  · exact ⟨_, _, _, _, rfl, h⟩
  · exact h.elim
theorem sm_fg_spec {d : Nat} {x : Int32} {f : Value → Prop} (h : sm_fg d x f) : (d = 1 ∧ f (.int x)) ∨ ∃ q, d = q + 2 ∧ f (.ref q) := by
  match d, h with
  | 0, h => exact h.elim
  | 1, h => exact Or.inl ⟨rfl, h⟩
  | q + 2, h => exact Or.inr ⟨q, rfl, h⟩
theorem sm_pop_spec {f : List Value → List Value → Prop} : ∀ {n : Nat} {st acc : List Value}, sm_pop n st acc f → ∃ as r, st = as.reverse ++ r ∧ as.length = n ∧ f (as ++ acc) r := by
  intro n
  induction n with
  | zero => intro st acc h; exact ⟨[], st, by simp, rfl, by simpa [sm_pop] using h⟩
  | succ n ih =>
    intro st acc h
    cases st with
    | nil => exact h.elim
    | cons v st =>
      obtain ⟨as, r, h1, h2, h3⟩ := ih (show sm_pop n st (v :: acc) f from h)
      exact ⟨as ++ [v], r, by simp [h1], by simp [h2], by simpa using h3⟩
theorem sm_ck_spec {b : Bool} {i j : Instr} (h : sm_ck b i = some j) : b = true ∧ i = j := by
  unfold sm_ck at h; split at h
  · exact ⟨by assumption, Option.some.inj h⟩
  · cases h
theorem sm_fd_spec {lay : List ((Nat × List Nat) ⊕ (Nat × Nat))} {p c d : Nat} (h : sm_fd lay p c = d) (hd : d ≠ 0) : ∃ ci ds, lay[p]? = some (.inl (ci, ds)) ∧ c / 100 = ci ∧ ds[c % 100]? = some d := by
  unfold sm_fd at h
  split at h
  · rename_i ci ds he
    split at h
    · rename_i h1
      refine ⟨ci, ds, he, h1, ?_⟩
      rw [List.getD_eq_getElem?_getD] at h
      cases hx : ds[c % 100]? with
      | none => rw [hx] at h; exact absurd h.symm hd
      | some y => rw [hx] at h; simp at h; rw [h]
    · exact absurd h.symm hd
  · exact absurd h.symm hd
theorem sm_ar_spec {lay : List ((Nat × List Nat) ⊕ (Nat × Nat))} {p : Nat} {ty : Nat} (h : (sm_ar lay p).1 = ty) (hd : ty ≠ 0) : lay[p]? = some (.inr (ty, (sm_ar lay p).2)) := by
  unfold sm_ar at h ⊢
  split at h
  · rename_i q he; rw [he]; subst h; rfl
  · exact absurd h.symm hd
theorem sm_pic_at {lay : List ((Nat × List Nat) ⊕ (Nat × Nat))} {ad : Nat → Nat} {cA : Nat → ClassId} {g : sm_G} {p : Nat} {x : (Nat × List Nat) ⊕ (Nat × Nat)} (h : lay[p]? = some x) : (sm_pic lay ad cA g)[p]? = some (ad p, sm_e ad cA g p x) := by
  simp [sm_pic, h]
theorem sm_fs_at {ad : Nat → Nat} {g : sm_G} {p ci k d : Nat} {ds : List Nat} (h : ds[k]? = some d) : (sm_fs ad g p ci ds)[k]? = some (sm_fv ad g p (ci * 100 + k) d) := by
  simp [sm_fs, h]
theorem sm_pic_set {lay : List ((Nat × List Nat) ⊕ (Nat × Nat))} {ad : Nat → Nat} {cA : Nat → ClassId} {g g' : sm_G} {p : Nat} {e : va_E} (he : ∀ j y, lay[j]? = some y → sm_e ad cA g' j y = if j = p then e else sm_e ad cA g j y) : (sm_pic lay ad cA g).set p (ad p, e) = sm_pic lay ad cA g' := by
  refine List.ext_getElem? (fun j => ?_)
  rw [List.getElem?_set]
  by_cases hj : p = j
  · subst hj
    rw [if_pos rfl]
    cases hx : lay[p]? with
    | none => simp [sm_pic, hx]; exact List.getElem?_eq_none_iff.mp hx
    | some x =>
      rw [sm_pic_at hx, he p x hx, if_pos rfl, if_pos]
      have : p < lay.length := (List.getElem?_eq_some_iff.mp hx).1
      simpa [sm_pic] using this
  · rw [if_neg hj]
    cases hx : lay[j]? with
    | none => simp [sm_pic, hx]
    | some x => rw [sm_pic_at hx, sm_pic_at hx, he j x hx, if_neg (fun h => hj h.symm)]
theorem sm_pic_fst (lay : List ((Nat × List Nat) ⊕ (Nat × Nat))) (ad : Nat → Nat) (cA : Nat → ClassId) (g g' : sm_G) : ∀ (k : Nat) (q : Nat × va_E), (sm_pic lay ad cA g)[k]? = some q → ∃ q' : Nat × va_E, (sm_pic lay ad cA g')[k]? = some q' ∧ q'.1 = q.1 := by
  intro k q h
  cases hx : lay[k]? with
  | none => simp [sm_pic, hx] at h
  | some x => rw [sm_pic_at hx] at h; exact ⟨_, sm_pic_at hx, by cases h; rfl⟩
theorem sm_pic_D {lay : List ((Nat × List Nat) ⊕ (Nat × Nat))} {ad : Nat → Nat} {cA : Nat → ClassId} {g : sm_G} {A : Nat → Prop} (h : va_D A (sm_pic lay ad cA g)) (g' : sm_G) : va_D A (sm_pic lay ad cA g') := by
  refine ⟨fun i j p q hi hj e => ?_, fun k q hk => ?_⟩
  · obtain ⟨p', hp, ep⟩ := sm_pic_fst lay ad cA g' g i p hi
    obtain ⟨q', hq, eq⟩ := sm_pic_fst lay ad cA g' g j q hj
    exact h.1 i j p' q' hp hq (by rw [ep, eq, e])
  · obtain ⟨q', hq, eq⟩ := sm_pic_fst lay ad cA g' g k q hk
    rw [← eq]; exact h.2 k q' hq
theorem sm_pic_A {lay : List ((Nat × List Nat) ⊕ (Nat × Nat))} {ad : Nat → Nat} {cA : Nat → ClassId} {g : sm_G} {sz : Nat} (g' : sm_G) {q : Nat} (h : va_A (sm_pic lay ad cA g) sz q) : va_A (sm_pic lay ad cA g') sz q := by
  rcases h with ⟨k, e, hk⟩ | h
  · obtain ⟨q', hq, eq⟩ := sm_pic_fst lay ad cA g g' k _ hk
    exact Or.inl ⟨k, q'.2, by rw [hq]; exact congrArg some (Prod.ext eq rfl)⟩
  · exact Or.inr h
-- what is written, seen in the picture
theorem sm_e_gS {ad : Nat → Nat} {cA : Nat → ClassId} {g : sm_G} {p ci k : Nat} {v : Int32} {ds : List Nat} {lay : List ((Nat × List Nat) ⊕ (Nat × Nat))} (hp : lay[p]? = some (.inl (ci, ds))) (hd : ds[k]? = some 1) :
    ∀ j y, lay[j]? = some y → sm_e ad cA (gS g p (ci * 100 + k) v) j y = if j = p then .inr (ci, (sm_fs ad g p ci ds).set k (.int v)) else sm_e ad cA g j y := by
  intro j y hj
  by_cases h : j = p
  · subst h
    rw [hp] at hj; cases hj
    rw [if_pos rfl]
    simp only [sm_e]
    refine congrArg (fun z => Sum.inr (ci, z)) ?_
    refine List.ext_getElem? (fun i => ?_)
    rw [List.getElem?_set]
    cases hx : ds[i]? with
    | none =>
      by_cases hik : k = i
      · subst hik; rw [hd] at hx; cases hx
      · rw [if_neg hik]; simp [sm_fs, hx]
    | some d =>
      rw [sm_fs_at hx, sm_fs_at hx]
      have hl : i < (sm_fs ad g j ci ds).length := by simpa [sm_fs] using (List.getElem?_eq_some_iff.mp hx).1
      by_cases hik : k = i
      · subst hik
        rw [hd] at hx; cases hx
        rw [if_pos rfl, if_pos hl]
        simp [sm_fv, rS_gS]
      · rw [if_neg hik]
        have : ¬ i = k := fun h => hik h.symm
        simp [sm_fv, rS_gS, this]
  · rw [if_neg h]
    cases y with
    | inl q => obtain ⟨c2, d2⟩ := q; simp [sm_e, sm_fs, sm_fv, rS_gS, h]
    | inr q => obtain ⟨c2, d2⟩ := q; rfl
theorem sm_e_gA {ad : Nat → Nat} {cA : Nat → ClassId} {g : sm_G} {p ty n : Nat} {f : Nat → Int32} {lay : List ((Nat × List Nat) ⊕ (Nat × Nat))} (hp : lay[p]? = some (.inr (ty, n))) (h3 : ty ≠ 3) :
    ∀ j y, lay[j]? = some y → sm_e ad cA (gA g p f) j y = if j = p then .inl (cA ty, n, .inl f) else sm_e ad cA g j y := by
  intro j y hj
  by_cases h : j = p
  · subst h; rw [hp] at hj; cases hj; rw [if_pos rfl]; simp [sm_e, h3, rA_gA]
  · rw [if_neg h]
    cases y with
    | inl q => obtain ⟨c2, d2⟩ := q; rfl
    | inr q => obtain ⟨c2, d2⟩ := q; simp [sm_e, rA_gA, rL_gA, h]
theorem sm_e_gL {ad : Nat → Nat} {cA : Nat → ClassId} {g : sm_G} {p n : Nat} {f : Nat → Int64} {lay : List ((Nat × List Nat) ⊕ (Nat × Nat))} (hp : lay[p]? = some (.inr (3, n))) :
    ∀ j y, lay[j]? = some y → sm_e ad cA (gL g p f) j y = if j = p then .inl (cA 3, n, .inr (.inl f)) else sm_e ad cA g j y := by
  intro j y hj
  by_cases h : j = p
  · subst h; rw [hp] at hj; cases hj; rw [if_pos rfl]; simp [sm_e, rL_gL]
  · rw [if_neg h]
    cases y with
    | inl q => obtain ⟨c2, d2⟩ := q; rfl
    | inr q => obtain ⟨c2, d2⟩ := q; simp [sm_e, rA_gL, rL_gL, h]
