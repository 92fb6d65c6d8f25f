/-! The law's start: what the cells hold, and what is known of the world. -/
def st_g (f7 f10 f50 f58 f59 f71 f85 f86 : Nat → Int32) : sm_G := gA (gA (gA (gA (gA (gA (gA (gA ct_g0 7 f7) 10 f10) 50 f50) 58 f58) 59 f59) 71 f71) 85 f85) 86 f86
theorem st_CP {f7 f10 f50 f58 f59 f71 f85 f86 : Nat → Int32} (h7 : ∀ x, x < 60 → f7 x = sI 0) (h10 : ∀ x, x < 60 → f10 x = sI 0) (h50 : ∀ k, k < 6 → f50 k = nI (dK k)) (h58 : ∀ x, x < 1920 → f58 x = sI 0) (h59 : ∀ x, x < 120 → f59 x = sI 0) (h71 : ∀ k, k < 6 → f71 k = nI (dK k)) (h85 : ∀ x, x < 60 → f85 x = nI 0) (h86 : ∀ x, x < 60 → f86 x = nI 0) : CP (st_g f7 f10 f50 f58 f59 f71 f85 f86) (st_g f7 f10 f50 f58 f59 f71 f85 f86) := by
  obtain ⟨G, hG⟩ : ∃ G, G = st_g f7 f10 f50 f58 f59 f71 f85 f86 := ⟨_, rfl⟩
  rw [← hG]
  have z0 : (0 : Int32) = nI 0 := by decide
  have eS : ∀ a b, rS G a b = nI 0 := fun a b => by rw [hG]; exact z0
  have eL : ∀ a k, rL G a k = (0 : Int64) := fun a k => by rw [hG]; rfl
  have e0 : ∀ p, p ≠ 7 → p ≠ 10 → p ≠ 50 → p ≠ 58 → p ≠ 59 → p ≠ 71 → p ≠ 85 → p ≠ 86 → ∀ k, rA G p k = nI 0 := fun p q1 q2 q3 q4 q5 q6 q7 q8 k => by
    rw [hG]; unfold st_g; simp only [rA_gA, if_neg q1, if_neg q2, if_neg q3, if_neg q4, if_neg q5, if_neg q6, if_neg q7, if_neg q8]; exact z0
  have e7 : rA G 7 = f7 := by rw [hG]; rfl
  have e10 : rA G 10 = f10 := by rw [hG]; rfl
  have e50 : rA G 50 = f50 := by rw [hG]; rfl
  have e58 : rA G 58 = f58 := by rw [hG]; rfl
  have e59 : rA G 59 = f59 := by rw [hG]; rfl
  have e71 : rA G 71 = f71 := by rw [hG]; rfl
  have e85 : rA G 85 = f85 := by rw [hG]; rfl
  have e86 : rA G 86 = f86 := by rw [hG]; rfl
  clear hG
  have z : tn (nI 0) = 0 := by decide
  have m1 : (sI 0).toInt = -1 := by decide
  have nq : nQ G = 0 := by unfold nQ; rw [eS]; exact z
  have nr : nR G = 0 := by unfold nR; rw [eS]; exact z
  have nt : nT G = 0 := by unfold nT; rw [eS]; exact z
  have no : nO G = 0 := by unfold nO; rw [eS]; exact z
  have nc : nC G = 0 := by unfold nC; rw [eS]; exact z
  have an6 : ∀ x q, x < 60 → anC G 6 x q = sI 0 := fun x q hx => by
    show (if bitI (rA G 85 x) q = true then _ else sI 0) = sI 0
    rw [e85, h85 x hx, bi_0]; exact if_neg Bool.false_ne_true
  have an9 : ∀ x q, x < 60 → anC G 9 x q = sI 0 := fun x q hx => by
    show (if bitI (rA G 86 x) q = true then _ else sI 0) = sI 0
    rw [e86, h86 x hx, bi_0]; exact if_neg Bool.false_ne_true
  have w6 : wL G 6 := fun x hx => by
    show -1 ≤ (rA G 7 x).toInt ∧ (rA G 7 x).toInt ≤ (nQ G : Int) ∧ ∀ q, bitI (rA G 85 x) q = true → _
    rw [e7, h7 x hx, e85, h85 x hx]
    exact ⟨by omega, by omega, fun q h => absurd h (by rw [bi_0]; exact Bool.false_ne_true)⟩
  have w9 : wL G 9 := fun x hx => by
    show -1 ≤ (rA G 10 x).toInt ∧ (rA G 10 x).toInt ≤ (nQ G : Int) ∧ ∀ q, bitI (rA G 86 x) q = true → _
    rw [e10, h10 x hx, e86, h86 x hx]
    exact ⟨by omega, by omega, fun q h => absurd h (by rw [bi_0]; exact Bool.false_ne_true)⟩
  have bt : ∀ b, bitL 0 b = false := fun b => by
    unfold bitL
    first
    | exact BitVec.getLsbD_zero
    | simp
    | fail "G"
  have v : ∀ {n k : Nat} {P : Prop}, n = 0 → k < n → P := fun e h => absurd h (by omega)
  have iQ : ivQ G := ⟨⟨by rw [nq]; exact eS 1 504, by omega⟩, fun q hq => v nq hq⟩
  have iR : ivR G := ⟨w6, w9, fun x q hx _ hne => absurd (by rw [an6 x q hx]; exact m1) hne, fun x q hx _ hne => absurd (by rw [an9 x q hx]; exact m1) hne, ⟨by rw [nr]; exact eS 12 602, by omega⟩, fun i => Or.inl (e0 14 (by decide) (by decide) (by decide) (by decide) (by decide) (by decide) (by decide) (by decide) i)⟩
  have iT : ivT G := ⟨⟨by rw [nt]; exact eS 15 809, by omega⟩, ⟨by rw [no]; exact eS 15 810, by omega⟩, fun i => Or.inl (e0 18 (by decide) (by decide) (by decide) (by decide) (by decide) (by decide) (by decide) (by decide) i), fun t ht => v nt ht, fun t ht => v nt ht, fun t ht => v nt ht, fun t ht => v nt ht, fun t ht => v nt ht, ⟨fun _ => 0, fun t ht => v nt ht⟩, by rw [no, nt]; rfl⟩
  have iC : ivC G := ⟨⟨by rw [nc]; exact eS 25 205, by omega⟩, fun i => Or.inl (e0 29 (by decide) (by decide) (by decide) (by decide) (by decide) (by decide) (by decide) (by decide) i), fun k hk => v nc hk, fun t _ => by
    rw [nc]; exact e0 30 (by decide) (by decide) (by decide) (by decide) (by decide) (by decide) (by decide) (by decide) t⟩
  refine ⟨⟨iQ, iR, iT, iC⟩, ?_, ?_, ?_, ?_⟩
  · refine ⟨by rw [nq]; exact eS 53 1001, fun q hq => v nq hq, fun q hq => v nq hq, fun q hq => v nq hq, fun q a b _ _ _ _ => ?_⟩
    rw [e0 57 (by decide) (by decide) (by decide) (by decide) (by decide) (by decide) (by decide) (by decide), eL, bt]
    exact propext ⟨fun _ => rfl, fun _ => by decide⟩
  · exact ⟨by rw [nr]; exact eS 53 1009, fun x q hx hq => by rw [e58, h58 _ (by omega), an6 x q hx], fun x q hx hq => by rw [e58, h58 _ (by omega), an9 x q hx], fun x hx => by rw [e59, h59 _ (by omega), e7, h7 x hx], fun x hx => by rw [e59, h59 _ (by omega), e10, h10 x hx], fun r hr => v nr hr, fun r hr => v nr hr, fun r _ _ => e0 70 (by decide) (by decide) (by decide) (by decide) (by decide) (by decide) (by decide) (by decide) r⟩
  · exact ⟨by rw [nt]; exact eS 53 1008, (eS 53 1022).trans (eS 0 911).symm, fun t ht => v nt ht, fun t ht => v nt ht, fun t ht => v nt ht, fun t ht => v nt ht, fun t ht => v nt ht, fun t ht => v nt ht, fun t ht => v nt ht, fun t _ _ => e0 65 (by decide) (by decide) (by decide) (by decide) (by decide) (by decide) (by decide) (by decide) t, fun k hk => by rw [e71, e50, h71 k hk, h50 k hk], by rw [no]; exact eS 53 1041, fun k hk => v no hk⟩
  · exact ⟨by rw [nc]; exact eS 53 1035, fun k hk => v nc hk, fun k hk => v nc hk, fun k hk => v nc hk, fun k hk => v nc hk, fun k _ _ => e0 83 (by decide) (by decide) (by decide) (by decide) (by decide) (by decide) (by decide) (by decide) k⟩
theorem st_50 : ∀ k, k < 6 → upd (upd (upd (upd (upd (upd (fun _ => (0 : Int32)) (0 : Int32).toNatClampNeg 30) (1 : Int32).toNatClampNeg 30) (2 : Int32).toNatClampNeg 10) (3 : Int32).toNatClampNeg 60) (4 : Int32).toNatClampNeg 1) (5 : Int32).toNatClampNeg 10 k = nI (dK k) := fun k hk => by
  rcases (show k = 0 ∨ k = 1 ∨ k = 2 ∨ k = 3 ∨ k = 4 ∨ k = 5 by omega) with rfl | rfl | rfl | rfl | rfl | rfl <;> first | decide | rfl
theorem st_in {w : Cond} (n : Nat) (h : tables_1[n]? = some w) : w ∈ lw_tbl := List.mem_append.mpr (Or.inr (List.mem_of_getElem? h))
theorem st_nest {args : Array Value} {s : State} (hts : ∀ w ∈ lw_tbl, w.before args s = true) : sm_nest s :=
  ⟨va_Nw.of rfl (hts _ (st_in 533 (by decide +kernel))), va_Nw.of rfl (hts _ (st_in 621 (by decide +kernel))), va_Nw.of rfl (hts _ (st_in 656 (by decide +kernel)))⟩
theorem st_str {b : Nat} {s : State} {k : Nat} {tx : String} (h1 : (Cond.stringRef RX9 k tx).before #[Value.ref b] s = true) (h2 : (Cond.exactly (.string RX9 k) "java/lang/String").before #[Value.ref b] s = true) : ∃ a : Nat, vk_R RX9 k tx a s := by
  obtain ⟨a, _, _, _, he, -⟩ := Cond.exactly_spec h2
  exact ⟨a, vk_R.of h1 he⟩
theorem st_thr {b : Nat} {s : State} (hts : ∀ w ∈ lw_tbl, w.before #[Value.ref b] s = true) (hgv : (Jvm.Cond.and given_1 narrow_1).before #[Value.ref b] s = true) : sm_thr (fun q : Nat => s.heap.size ≤ q) s := by
  have hs := flat_of_before _ hgv
  have hA : ∀ a : Nat, a < s.heap.size → ¬ (fun q : Nat => s.heap.size ≤ q) a := fun a h => Nat.not_le.mpr h
  have hi := hts (.initialized Bundle.tN) (st_in 15 (by decide +kernel))
  obtain ⟨a1, v1⟩ := st_str (hts (.stringRef RX9 265 "no such claim") (st_in 972 (by decide +kernel))) (hs _ (by decide +kernel))
  obtain ⟨a2, v2⟩ := st_str (hts (.stringRef RX9 270 "nothing of that number is told of a claim") (st_in 999 (by decide +kernel))) (hs _ (by decide +kernel))
  obtain ⟨a3, v3⟩ := st_str (hts (.stringRef RX9 278 "no such thing") (st_in 1007 (by decide +kernel))) (hs _ (by decide +kernel))
  obtain ⟨a4, v4⟩ := st_str (hts (.stringRef RX9 307 "nothing of that number is told of a thing") (st_in 1029 (by decide +kernel))) (hs _ (by decide +kernel))
  refine ⟨vx_Zqof (hts _ (st_in 960 (by decide +kernel))) hi (hs _ (by decide +kernel)) hA, vx_Zqof (hts _ (st_in 962 (by decide +kernel))) hi (hs _ (by decide +kernel)) hA, fun w hw => ?_, a1, a2, a3, a4, v1, v2, v3, v4⟩
  rcases List.mem_cons.mp hw with rfl | hw
  · exact va_Nw.of rfl (hts _ (st_in 935 (by decide +kernel)))
  · rcases List.mem_cons.mp hw with rfl | hw
    · exact va_Nw.of rfl (hts _ (st_in 937 (by decide +kernel)))
    · rcases List.mem_cons.mp hw with rfl | hw
      · exact va_Nw.of rfl (hts _ (st_in 939 (by decide +kernel)))
      · rcases List.mem_cons.mp hw with rfl | hw
        · exact va_Nw.of rfl (hts _ (st_in 941 (by decide +kernel)))
        · exact absurd hw List.not_mem_nil

