/-! The class's two methods that throw: contracts that return or throw. -/
def tNS : String := "java/util/NoSuchElementException"
def tNM : List String := ["java/lang/RuntimeException", "java/lang/Exception"]
/-- the code of the constructor of that class that takes a text: its own entry for the one above is 13 -/
def tRX : ByteArray := ⟨#[0x2a, 0x2b, 0xb7, 0x00, 0x0d, 0xb1]⟩
def tAt : List Cond := (Bundle.ownAtomsX RX9 270 tNS 13 tRX tNM).filter vx_no
def tNW : List Cond := [.castable tNS tNS, .declares (Bundle.initS "java/lang/RuntimeException"), .declares (Bundle.initS "java/lang/Exception"), .declares (Bundle.initS "java/lang/Throwable")]
theorem tns_in : ∀ w ∈ tAt.filter goodWord, w ∈ sm_BW := fun w hw => List.mem_filter.mpr ⟨((goodIn_of (big := lw_tbl) (tAt.filter goodWord) (by decide +kernel)) w hw).1, (List.mem_filter.mp hw).2⟩
theorem tns_no : ∀ w ∈ tAt.filter (fun w => !goodWord w), w ∈ tNW := by decide +kernel
theorem tns_ot : ∀ w ∈ Cond.classLink RX9 266 tNS :: Cond.initialized tNS :: tAt, vx_ot w = true := by decide +kernel
theorem tns_cl : Cond.classLink RX9 266 tNS ∈ sm_BW ∧ Cond.initialized tNS ∈ sm_BW := ⟨sm_b4 213 rfl rfl, sm_b1 18 rfl rfl⟩
/-- what a throw needs of the world -/
def sm_thr (A : Nat → Prop) (U : State) : Prop :=
  vx_Zq Bundle.tN "UNASSIGNED_STACK" Bundle.steD A U U.heap ∧ vx_Zq Bundle.tN "SUPPRESSED_SENTINEL" Bundle.listD A U U.heap ∧ (∀ w ∈ tNW, va_Nw w U) ∧
  ∃ a1 a2 a3 a4 : Nat, vk_R RX9 268 "no such claim" a1 U ∧ vk_R RX9 273 "nothing of that number is told of a claim" a2 U ∧ vk_R RX9 281 "no such thing" a3 U ∧ vk_R RX9 310 "nothing of that number is told of a thing" a4 U
section TNS
variable {p : Program} {l : Launch} {e : Env} {R : Room} {s : State} {m : MethodId} {args : Array Value} {below : List Frame} {meth : Method} {c : Code} {H : Heap} {locs : List Loc} {cells slots : Nat}
variable {free : Addr → Prop} {ls : Array Slot} {rest : List Value} {Qc : Array Value → State → Outcome → State → Prop} {XC : String → State → State → Prop}
/-- OWED: as the kit's row for a class whose constructor's entry is 7, for one whose entry is 13 -/
theorem x9_throw {cc : ByteArray} {pc : Nat} (hexec : p.tables.exec = Jvm.exec) (hb : c.code = cc) (hl : l.stackTraces = false) {text : String} {is mc ms sa : Nat} {A : Nat → Prop}
    (hown : s.vm.findClass RX9 = some m.cls) (hk : (Cond.classLink RX9 266 tNS).before args s = true) (hini : (Cond.initialized tNS).before args s = true) (hstr : vk_R RX9 is text sa s) (hat : ∀ w ∈ tAt, w.before args s = true)
    (hU : vx_Zq Bundle.tN "UNASSIGNED_STACK" Bundle.steD A s s.heap) (hN : vx_Zq Bundle.tN "SUPPRESSED_SENTINEL" Bundle.listD A s s.heap) (hS : va_S A s.heap H locs) (hsize : ls.size = c.maxLocals)
    (d0 : decode cc pc = .ok (.new 266, 3)) (d3 : decode cc (pc + 3) = .ok (.dup, 1)) (d4 : decode cc (pc + 4) = .ok (.ldc_w is, 3)) (d7 : decode cc (pc + 7) = .ok (.invokespecial 270, 3)) (d10 : decode cc (pc + 10) = .ok (.athrow, 1))
    (hout : ∀ x ∈ c.exceptionTable.toList, covers x (pc + 10) = false) (hRframes : 5 < R.frames) (hRlocals : (rest.map fun v => v.category).sum + 82 ≤ R.locals) (hRcells : cells + 1 ≤ R.cells) (hRslots : slots + 6 ≤ R.slots) (hlocks : meth.locks = false)
    (hx : ∀ t : State, s.vm.Alike t.vm → H.size ≤ t.heap.size → (∀ q : Nat, q < H.size → t.heap[q]? = H[q]?) → XC tNS s t)
    (hf : ∀ z ∈ locs, free z.base) (hc : cells + 1 ≤ mc) (hs : slots + 6 ≤ ms) :
    W p l e R s m args below meth c H locs cells slots (vx_MQ below Qc XC args s mc ms free) (F0 m pc ls rest) := by
  sorry
end TNS
def x9_rm : Room := { frames := 10, cells := 1, slots := 6, locals := 400 }
def x9_W (D : va_G) (ad : Nat → Nat) (cA : Nat → ClassId) (sz : Nat) (g : sm_G) (U : State) : Prop := sm_world lay D ad cA sz g U ∧ sm_thr (va_A (sm_pic lay ad cA g) sz) U
/-- what it gives, or none -/
def x9_Q (D : va_G) (ad : Nat → Nat) (cA : Nat → ClassId) (sz : Nat) (g : sm_G) (r : Option Int32) : Array Value → State → Outcome → State → Prop := sm_post lay D ad cA sz g (fun v u => u = g ∧ ∃ x, r = some x ∧ v = some (.int x))
def x9_X (D : va_G) (ad : Nat → Nat) (cA : Nat → ClassId) (sz : Nat) (g : sm_G) (r : Option Int32) : String → State → State → Prop := vx_X (fun _ : Unit => r = none) (fun E _ t => E = tNS ∧ va_P D vwCl (sm_pic lay ad cA g) t.heap) (va_A (sm_pic lay ad cA g) sz)
/-- a place that throws -/
def x9_site (cc : ByteArray) (q : Nat × Nat) : Prop := decode cc q.1 = .ok (.new 266, 3) ∧ decode cc (q.1 + 3) = .ok (.dup, 1) ∧ decode cc (q.1 + 4) = .ok (.ldc_w q.2, 3) ∧ decode cc (q.1 + 7) = .ok (.invokespecial 270, 3) ∧ decode cc (q.1 + 10) = .ok (.athrow, 1) ∧ (q.2 = 268 ∨ q.2 = 273 ∨ q.2 = 281 ∨ q.2 = 310)
set_option maxHeartbeats 4000000 in
theorem x9_met {l : Launch} (hl : l.stackTraces = false) {y : sm_M} (hy : sm_mok y) (hown : y.1.cls = RX9) (hret : y.2.2.2 = some .int) (hL : y.2.2.1 = 3) (L : List (Nat × sm_SP)) (hcs : ∀ q ∈ L, sm_spok l lay sm_mt 9 q.1 q.2)
    (D : va_G) (ad : Nat → Nat) (cA : Nat → ClassId) (sz : Nat) (g : sm_G) (k w : Int32) (r : Option Int32) (ps : List (Nat × Nat)) (hps : ∀ q ∈ ps, x9_site y.2.1 q)
    (hb : ∀ (K : Option Value → sm_G → Prop) (J : Nat → sm_Lo → List Value → sm_G → Prop) (S : Nat → Nat → sm_Lo → List Value → sm_G → Prop), sm_walk lay (sm_nd TX9_ y.2.1 3 []) (sm_cl L) none 0 K J S → (∀ pc ls st g, S 0 pc ls st g = J pc ls st g) → (∀ x, r = some x → K (some (.int x)) g) → (r = none → ∀ q ∈ ps, J q.1 [some (.ref 0), some (.int k), some (.int w)] [] g) → J 0 [some (.ref 0), some (.int k), some (.int w)] [] g) :
    vx_Met l y.1 (Cond.code y.1 y.2.1 y.2.2.1 y.2.2.2 :: sm_BW) x9_rm (va_Pc (([.ref 0, .int k, .int w] : List Value).map (sm_tr ad)) (x9_W D ad cA sz g)) (x9_Q D ad cA sz g r) (x9_X D ad cA sz g r) 1 6 (va_A (sm_pic lay ad cA g) sz) := by
  refine vx_ofW (cc := y.2.1) (maxL := y.2.2.1) (ret := y.2.2.2) hy.2.2.1 rfl ?_
  intro p e s m args below meth c s₁ B hml hno hv
  obtain ⟨rfl, ⟨hsz, hP, hK, hD0, hN⟩, hU, hU2, hC, a1, a2, a3, a4, v1, v2, v3, v4⟩ := hv
  have hts := atoms_spec (ws := Cond.code y.1 y.2.1 y.2.2.1 y.2.2.2 :: sm_BW) B.pre
  have hbw : ∀ w' ∈ sm_BW, w'.before (([.ref 0, .int k, .int w] : List Value).map (sm_tr ad)).toArray s = true := fun w' hw => hts w' (List.mem_cons_of_mem _ hw)
  have hown' : s.vm.findClass RX9 = some m.cls := by rw [← hown]; exact findClass_of_methodNamed B.named
  have hlocks := B.notSynchronized
  subst hsz
  have C0 : sm_ctx p s m (([.ref 0, .int k, .int w] : List Value).map (sm_tr ad)).toArray c D ad cA (va_A (sm_pic lay ad cA g) s.heap.size) s.heap lay TX9_.1 y.2.1 none :=
    ⟨B.exec, B.bytes, hown', hbw, hK, fun g' => sm_pic_D hD0.self g', fun q hq => by cases hq⟩
  have hA : ∀ q, s.heap.size ≤ q → va_A (sm_pic lay ad cA g) s.heap.size q := fun q h => Or.inr h
  have hx := B.exec
  have hbb := B.bytes
  have hr := B.returns
  have hretok : sm_retok p l e (headSpec (Cond.code y.1 y.2.1 y.2.2.1 y.2.2.2 :: sm_BW) x9_rm).room s m (([.ref 0, .int k, .int w] : List Value).map (sm_tr ad)).toArray below meth c (vx_MQ below (x9_Q D ad cA s.heap.size g r) (x9_X D ad cA s.heap.size g r) (([.ref 0, .int k, .int w] : List Value).map (sm_tr ad)).toArray s 1 6 (va_A (sm_pic lay ad cA g) s.heap.size)) D ad cA (va_A (sm_pic lay ad cA g) s.heap.size) s.heap lay 0 0 y.2.1 0 (fun v u => u = g ∧ ∃ x, r = some x ∧ v = some (.int x)) := by
    intro pc a H locs u hPu hSu
    refine ⟨fun x hdec hz hKx => ?_, fun x hdec h2 hKx => ?_, fun x hdec h3 hKx => ?_, fun hdec h4 hKx => ?_⟩
    · refine vx_ret (W.widen (k := 1) (n := 6) (Nat.zero_le _) (Nat.zero_le _) ?_)
      exact W.iret hx hbb (hr.trans hret) (fun t ht _ => ⟨⟨some (.int x), u, rfl, hKx, by rw [ht]; exact hPu⟩, hSu.F ht⟩) hSu.2.2 hdec
    · cases h2
    · cases h3
    · cases h4
  have hwalk := sm_walks (T := TX9_) (bc := y.2.1) (hd := []) (nL := 3) (xs := none) (mt := sm_mt) (cs := sm_cl L) (rk := 0) (d := 9) C0 (hml.trans hL) hA hN v_cok v_lok v_ka v_tok_X9 (sm_spok_cl hcs) ⟨Nat.le_of_ble_eq_true rfl, Nat.le_of_ble_eq_true rfl, Nat.zero_le _, Nat.zero_le _⟩ hretok
  have hthr : r = none → ∀ q ∈ ps, sm_J p l e (headSpec (Cond.code y.1 y.2.1 y.2.2.1 y.2.2.2 :: sm_BW) x9_rm).room s m (([.ref 0, .int k, .int w] : List Value).map (sm_tr ad)).toArray below meth c (vx_MQ below (x9_Q D ad cA s.heap.size g r) (x9_X D ad cA s.heap.size g r) (([.ref 0, .int k, .int w] : List Value).map (sm_tr ad)).toArray s 1 6 (va_A (sm_pic lay ad cA g) s.heap.size)) D ad cA (va_A (sm_pic lay ad cA g) s.heap.size) s.heap lay 3 0 0 q.1 [some (.ref 0), some (.int k), some (.int w)] [] g := by
    intro hr9 q hq a H locs hlv hPH hSH
    obtain ⟨d0, d3, d4, d7, d10, ht⟩ := hps q hq
    obtain ⟨sa, tx, hstr⟩ : ∃ sa tx, vk_R RX9 q.2 tx sa s := by
      rcases ht with ht | ht | ht | ht <;> rw [ht]
      · exact ⟨_, _, v1⟩
      · exact ⟨_, _, v2⟩
      · exact ⟨_, _, v3⟩
      · exact ⟨_, _, v4⟩
    refine x9_throw (text := tx) (is := q.2) (sa := sa) (A := va_A (sm_pic lay ad cA g) s.heap.size) hx hbb hl hown' (hbw _ tns_cl.1) (hbw _ tns_cl.2) hstr
      (vx_hat (fun w' hw => hbw w' (tns_in w' hw)) tns_no (fun w' hw => va_Nw.use (by
        rcases List.mem_cons.mp hw with rfl | hw
        · rfl
        · rcases List.mem_cons.mp hw with rfl | hw
          · rfl
          · rcases List.mem_cons.mp hw with rfl | hw
            · rfl
            · rcases List.mem_cons.mp hw with rfl | hw
              · rfl
              · exact absurd hw List.not_mem_nil) (hC w' hw))) hU hU2 hSH (by rw [hml, hL]; exact hlv.2.1) d0 d3 d4 d7 d10 (fun x hx => (hno x hx).elim) (Nat.le_of_ble_eq_true rfl) (Nat.le_of_ble_eq_true rfl) (Nat.le_of_ble_eq_true rfl) (Nat.le_of_ble_eq_true rfl) hlocks ?_ hSH.2.2 (Nat.le_of_ble_eq_true rfl) (Nat.le_of_ble_eq_true rfl)
    intro t hal hsz hke
    exact ⟨(), hr9, ⟨rfl, hPH.kept (fun k x hx => hke x.1 ((hPH k x hx).lt))⟩, Nat.le_trans hSH.1 hsz, fun q h1 h2 => (hke q (Nat.lt_of_lt_of_le h1 hSH.1)).trans (hSH.2.1 q h1 h2)⟩
  have hJ := hb _ _ _ hwalk (fun _ _ _ _ => rfl) (fun x hx9 => ⟨rfl, x, hx9, rfl⟩) hthr
  rw [lg_entry_eq, hL]
  refine hJ _ s.heap [] ?_ hP va_S.rf
  exact sm_entry (as := [.ref 0, .int k, .int w]) (Nat.le_refl 3) (fun v hv x => by
    rcases List.mem_cons.mp hv with rfl | hv
    · exact fun h => by cases h
    · rcases List.mem_cons.mp hv with rfl | hv
      · exact fun h => by cases h
      · rcases List.mem_cons.mp hv with rfl | hv
        · exact fun h => by cases h
        · exact absurd hv List.not_mem_nil)

theorem mok_X9_claimed : sm_mok (yX9_claimed, cX9_claimed, 3, (some .int)) := ⟨sm_b4 211 rfl rfl, sm_b1 1 rfl rfl, by decide +kernel, by decide +kernel, by decide +kernel, by decide⟩
theorem x9s_claimed : ∀ q ∈ [(11, 268), (75, 273)], x9_site cX9_claimed q := by
  intro q hq
  rcases List.mem_cons.mp hq with rfl | hq
  · exact ⟨by decide +kernel, by decide +kernel, by decide +kernel, by decide +kernel, by decide +kernel, by decide⟩
  · rcases List.mem_cons.mp hq with rfl | hq
    · exact ⟨by decide +kernel, by decide +kernel, by decide +kernel, by decide +kernel, by decide +kernel, by decide⟩
    · exact absurd hq List.not_mem_nil
/-- what it answers, or none -/
noncomputable def claimedR (g : sm_G) (k w : Int32) : Option Int32 := if dc (okC g k ∧ 0 ≤ w.toInt ∧ w.toInt ≤ 2) = true then some (clmA g (tn k) w) else none
theorem met_claimed {l : Launch} (hl : l.stackTraces = false) (D : va_G) (ad : Nat → Nat) (cA : Nat → ClassId) (sz : Nat) (g : sm_G) (k w : Int32) (hi : iv g) :
    vx_Met l yX9_claimed (Cond.code yX9_claimed cX9_claimed 3 (some .int) :: sm_BW) x9_rm (va_Pc (([.ref 0, .int k, .int w] : List Value).map (sm_tr ad)) (x9_W D ad cA sz g)) (x9_Q D ad cA sz g (claimedR g k w)) (x9_X D ad cA sz g (claimedR g k w)) 1 6 (va_A (sm_pic lay ad cA g) sz) := by
  refine x9_met (y := (yX9_claimed, cX9_claimed, 3, some .int)) hl mok_X9_claimed rfl rfl rfl [(28, sp_X2_has), (31, sp_X2_stateOf), (32, sp_X2_reportOf), (33, sp_X2_thingOf)] (List.forall_mem_cons.mpr ⟨sm_spok_up (Nat.le_of_ble_eq_true rfl) (ok_X2_has l), List.forall_mem_cons.mpr ⟨sm_spok_up (Nat.le_of_ble_eq_true rfl) (ok_X2_stateOf l), List.forall_mem_cons.mpr ⟨sm_spok_up (Nat.le_of_ble_eq_true rfl) (ok_X2_reportOf l), List.forall_mem_cons.mpr ⟨sm_spok_up (Nat.le_of_ble_eq_true rfl) (ok_X2_thingOf l), fun _ h => absurd h List.not_mem_nil⟩⟩⟩⟩) D ad cA sz g k w _ [(11, 268), (75, 273)] x9s_claimed ?_
  intro K J S hW hS0 hK hJ
  have hW : sm_walk lay NX9_claimed (sm_cl [(28, sp_X2_has), (31, sp_X2_stateOf), (32, sp_X2_reportOf), (33, sp_X2_thingOf)]) none 0 K J S := hW
  refine wk_claimed K J S hW hS0 g k w hi ?_ ?_ ?_
  · intro a b
    exact hK _ (if_pos (dc_t.mpr ⟨a, b.1, b.2⟩))
  · intro a
    exact hJ (if_neg (fun b => a (dc_t.mp b).1)) _ List.mem_cons_self
  · intro a b
    exact hJ (if_neg (fun d => b (dc_t.mp d).2)) _ (List.mem_cons_of_mem _ List.mem_cons_self)

theorem mok_X9_place : sm_mok (yX9_place, cX9_place, 3, (some .int)) := ⟨sm_b5 46 rfl rfl, sm_b1 1 rfl rfl, by decide +kernel, by decide +kernel, by decide +kernel, by decide⟩
theorem x9s_place : ∀ q ∈ [(11, 281), (166, 310)], x9_site cX9_place q := by
  intro q hq
  rcases List.mem_cons.mp hq with rfl | hq
  · exact ⟨by decide +kernel, by decide +kernel, by decide +kernel, by decide +kernel, by decide +kernel, by decide⟩
  · rcases List.mem_cons.mp hq with rfl | hq
    · exact ⟨by decide +kernel, by decide +kernel, by decide +kernel, by decide +kernel, by decide +kernel, by decide⟩
    · exact absurd hq List.not_mem_nil
/-- what it answers, or none -/
noncomputable def placeR (g : sm_G) (k w : Int32) : Option Int32 := if dc (okT g k ∧ 0 ≤ w.toInt ∧ w.toInt ≤ 9) = true then some (plcA g (tn k) w) else none
theorem met_place {l : Launch} (hl : l.stackTraces = false) (D : va_G) (ad : Nat → Nat) (cA : Nat → ClassId) (sz : Nat) (g : sm_G) (k w : Int32) (hi : iv g) :
    vx_Met l yX9_place (Cond.code yX9_place cX9_place 3 (some .int) :: sm_BW) x9_rm (va_Pc (([.ref 0, .int k, .int w] : List Value).map (sm_tr ad)) (x9_W D ad cA sz g)) (x9_Q D ad cA sz g (placeR g k w)) (x9_X D ad cA sz g (placeR g k w)) 1 6 (va_A (sm_pic lay ad cA g) sz) := by
  refine x9_met (y := (yX9_place, cX9_place, 3, some .int)) hl mok_X9_place rfl rfl rfl [(90, sp_X8_has), (94, sp_X8_whereOf), (98, sp_X8_bagOf), (99, sp_X8_ageOf), (95, sp_X8_kindOf), (96, sp_X8_finderOf), (100, sp_X8_takerOf), (101, sp_X8_outDayOf), (102, sp_X8_whyOf), (107, sp_X8_countInside), (34, sp_X2_standingOn)] (List.forall_mem_cons.mpr ⟨sm_spok_up (Nat.le_of_ble_eq_true rfl) (ok_X8_has l), List.forall_mem_cons.mpr ⟨sm_spok_up (Nat.le_of_ble_eq_true rfl) (ok_X8_whereOf l), List.forall_mem_cons.mpr ⟨sm_spok_up (Nat.le_of_ble_eq_true rfl) (ok_X8_bagOf l), List.forall_mem_cons.mpr ⟨sm_spok_up (Nat.le_of_ble_eq_true rfl) (ok_X8_ageOf l), List.forall_mem_cons.mpr ⟨sm_spok_up (Nat.le_of_ble_eq_true rfl) (ok_X8_kindOf l), List.forall_mem_cons.mpr ⟨sm_spok_up (Nat.le_of_ble_eq_true rfl) (ok_X8_finderOf l), List.forall_mem_cons.mpr ⟨sm_spok_up (Nat.le_of_ble_eq_true rfl) (ok_X8_takerOf l), List.forall_mem_cons.mpr ⟨sm_spok_up (Nat.le_of_ble_eq_true rfl) (ok_X8_outDayOf l), List.forall_mem_cons.mpr ⟨sm_spok_up (Nat.le_of_ble_eq_true rfl) (ok_X8_whyOf l), List.forall_mem_cons.mpr ⟨sm_spok_up (Nat.le_of_ble_eq_true rfl) (ok_X8_countInside l), List.forall_mem_cons.mpr ⟨sm_spok_up (Nat.le_of_ble_eq_true rfl) (ok_X2_standingOn l), fun _ h => absurd h List.not_mem_nil⟩⟩⟩⟩⟩⟩⟩⟩⟩⟩⟩) D ad cA sz g k w _ [(11, 281), (166, 310)] x9s_place ?_
  intro K J S hW hS0 hK hJ
  have hW : sm_walk lay NX9_place (sm_cl [(90, sp_X8_has), (94, sp_X8_whereOf), (98, sp_X8_bagOf), (99, sp_X8_ageOf), (95, sp_X8_kindOf), (96, sp_X8_finderOf), (100, sp_X8_takerOf), (101, sp_X8_outDayOf), (102, sp_X8_whyOf), (107, sp_X8_countInside), (34, sp_X2_standingOn)]) none 0 K J S := hW
  refine wk_place K J S hW hS0 g k w hi ?_ ?_ ?_
  · intro a b
    exact hK _ (if_pos (dc_t.mpr ⟨a, b.1, b.2⟩))
  · intro a
    exact hJ (if_neg (fun b => a (dc_t.mp b).1)) _ List.mem_cons_self
  · intro a b
    exact hJ (if_neg (fun d => b (dc_t.mp d).2)) _ (List.mem_cons_of_mem _ List.mem_cons_self)

