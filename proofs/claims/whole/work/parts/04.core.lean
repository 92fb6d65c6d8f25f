/-! A SMALL MACHINE over one fixed layout of cells: its state, its steps (each step a transformer of what is wanted behind it), and what its steps mean to the kit's W (next part). -/
/-- what the cells hold: fields that are ints, by place and code; arrays of int and boolean, by place; arrays of long -/
abbrev sm_G : Type := (Nat → Nat → Int32) × (Nat → Nat → Int32) × (Nat → Nat → Int64)
abbrev sm_Lo : Type := List (Option Value)
abbrev sm_SP : Type := List Value → sm_G → (Option Value → sm_G → Prop) → Prop
abbrev sm_NF : Type := Nat → Option (Instr × Nat × Bool)
def rS (g : sm_G) (p c : Nat) : Int32 := g.1 p c
def rA (g : sm_G) (p : Nat) : Nat → Int32 := g.2.1 p
def rL (g : sm_G) (p : Nat) : Nat → Int64 := g.2.2 p
def gS (g : sm_G) (p c : Nat) (v : Int32) : sm_G := (fun a b => if a = p ∧ b = c then v else g.1 a b, g.2)
def gA (g : sm_G) (p : Nat) (f : Nat → Int32) : sm_G := (g.1, fun a => if a = p then f else g.2.1 a, g.2.2)
def gL (g : sm_G) (p : Nat) (f : Nat → Int64) : sm_G := (g.1, g.2.1, fun a => if a = p then f else g.2.2 a)
theorem rS_gS (g : sm_G) (p c : Nat) (v : Int32) (a b : Nat) : rS (gS g p c v) a b = if a = p ∧ b = c then v else rS g a b := rfl
theorem rS_gA (g : sm_G) (p : Nat) (f : Nat → Int32) (a b : Nat) : rS (gA g p f) a b = rS g a b := rfl
theorem rS_gL (g : sm_G) (p : Nat) (f : Nat → Int64) (a b : Nat) : rS (gL g p f) a b = rS g a b := rfl
theorem rA_gS (g : sm_G) (p c : Nat) (v : Int32) (a : Nat) : rA (gS g p c v) a = rA g a := rfl
theorem rA_gA (g : sm_G) (p : Nat) (f : Nat → Int32) (a : Nat) : rA (gA g p f) a = if a = p then f else rA g a := rfl
theorem rA_gL (g : sm_G) (p : Nat) (f : Nat → Int64) (a : Nat) : rA (gL g p f) a = rA g a := rfl
theorem rL_gS (g : sm_G) (p c : Nat) (v : Int32) (a : Nat) : rL (gS g p c v) a = rL g a := rfl
theorem rL_gA (g : sm_G) (p : Nat) (f : Nat → Int32) (a : Nat) : rL (gA g p f) a = rL g a := rfl
theorem rL_gL (g : sm_G) (p : Nat) (f : Nat → Int64) (a : Nat) : rL (gL g p f) a = if a = p then f else rL g a := rfl
/-- -(n + 1) -/
def sI (n : Nat) : Int32 := Int32.ofInt (-((n : Int) + 1))
-- the steps' parts
def sm_ldi : sm_Lo → Nat → (Int32 → Prop) → Prop
  | [], _, _ => False
  | some (.int x) :: _, 0, f => f x
  | _ :: _, 0, _ => False
  | _ :: l, n + 1, f => sm_ldi l n f
def sm_ldl : sm_Lo → Nat → (Int64 → Prop) → Prop
  | [], _, _ => False
  | some (.long x) :: _, 0, f => f x
  | _ :: _, 0, _ => False
  | _ :: l, n + 1, f => sm_ldl l n f
def sm_ldr : sm_Lo → Nat → (Nat → Prop) → Prop
  | [], _, _ => False
  | some (.ref x) :: _, 0, f => f x
  | _ :: _, 0, _ => False
  | _ :: l, n + 1, f => sm_ldr l n f
/-- a place whose neighbour is written: a long there is gone -/
def sm_un : Option Value → Option Value
  | some (.long _) => none
  | o => o
/-- a value of one slot, or of two, is put into a place -/
def sm_st1 : sm_Lo → Nat → Value → sm_Lo
  | [], _, _ => []
  | _ :: l, 0, v => some v :: l
  | x :: l, n + 1, v => (if n = 0 then sm_un x else x) :: sm_st1 l n v
def sm_st2 : sm_Lo → Nat → Value → sm_Lo
  | [], _, _ => []
  | _ :: l, 0, v => some v :: (match l with | [] => [] | _ :: r => none :: r)
  | x :: l, n + 1, v => (if n = 0 then sm_un x else x) :: sm_st2 l n v
def sm_i1 : List Value → (Int32 → List Value → Prop) → Prop
  | .int x :: r, f => f x r
  | _, _ => False
def sm_i2 : List Value → (Int32 → Int32 → List Value → Prop) → Prop
  | .int y :: .int x :: r, f => f x y r
  | _, _ => False
def sm_l1 : List Value → (Int64 → List Value → Prop) → Prop
  | .long x :: r, f => f x r
  | _, _ => False
def sm_l2 : List Value → (Int64 → Int64 → List Value → Prop) → Prop
  | .long y :: .long x :: r, f => f x y r
  | _, _ => False
def sm_li : List Value → (Int64 → Int32 → List Value → Prop) → Prop
  | .int y :: .long x :: r, f => f x y r
  | _, _ => False
def sm_r1 : List Value → (Nat → List Value → Prop) → Prop
  | .ref x :: r, f => f x r
  | _, _ => False
def sm_ir : List Value → (Int32 → Nat → List Value → Prop) → Prop
  | .int x :: .ref p :: r, f => f x p r
  | _, _ => False
def sm_iir : List Value → (Int32 → Int32 → Nat → List Value → Prop) → Prop
  | .int x :: .int i :: .ref p :: r, f => f x i p r
  | _, _ => False
def sm_lir : List Value → (Int64 → Int32 → Nat → List Value → Prop) → Prop
  | .long x :: .int i :: .ref p :: r, f => f x i p r
  | _, _ => False
def sm_bc (c a b : Prop) : Prop := (c → a) ∧ (¬ c → b)
/-- a field: 0 none such, 1 an int, q + 2 the thing at place q -/
def sm_fg (d : Nat) (x : Int32) (f : Value → Prop) : Prop := match d with
  | 0 => False
  | 1 => f (.int x)
  | q + 2 => f (.ref q)
def sm_pop : Nat → List Value → List Value → (List Value → List Value → Prop) → Prop
  | 0, st, as, f => f as st
  | n + 1, v :: st, as, f => sm_pop n st (v :: as) f
  | _ + 1, [], _, _ => False
def sm_psh : Option Value → List Value → List Value
  | some v, r => v :: r
  | none, r => r
def sm_tsw : List Int → Int → Int → (Nat → Prop) → Prop
  | [], _, _, _ => True
  | o :: os, lo, x, f => (x = lo → f o.toNat) ∧ sm_tsw os (lo + 1) x f
def sm_lsw : List (Int × Int) → Int → Int → (Nat → Prop) → Prop
  | [], d, _, f => f d.toNat
  | (a, o) :: ps, d, x, f => (x = a → f o.toNat) ∧ (¬ x = a → sm_lsw ps d x f)
/-- what a boolean method returns is 0 or 1 -/
def sm_zr (bz : Bool) (x : Int32) : Prop := bz = true → x = nI 0 ∨ x = nI 1
/-- an index that is in range -/
def sm_in (i : Int32) (n : Nat) : Prop := 0 ≤ i.toInt ∧ i.toInt < (n : Int)
def sm_fd (lay : List ((Nat × List Nat) ⊕ (Nat × Nat))) (p c : Nat) : Nat := match lay[p]? with
  | some (.inl (ci, ds)) => if c / 100 = ci then ds.getD (c % 100) 0 else 0
  | _ => 0
def sm_ar (lay : List ((Nat × List Nat) ⊕ (Nat × Nat))) (p : Nat) : Nat × Nat := match lay[p]? with
  | some (.inr q) => q
  | _ => (0, 0)
/-- one step: what is wanted of the state behind it, k; K is what is wanted of a method's answer -/
def sm_stp (lay : List ((Nat × List Nat) ⊕ (Nat × Nat))) (cs : Nat → sm_SP) (xs : Option (Nat × (Nat → Int32))) (bz : Bool) (K : Option Value → sm_G → Prop) (i : Instr) (nx : Nat) (ls : sm_Lo) (st : List Value) (g : sm_G) (k : Nat → sm_Lo → List Value → sm_G → Prop) : Prop :=
  match i with
  | .iload n => sm_ldi ls n fun x => k nx ls (.int x :: st) g
  | .lload n => sm_ldl ls n fun x => k nx ls (.long x :: st) g
  | .aload n => sm_ldr ls n fun x => k nx ls (.ref x :: st) g
  | .istore n => sm_i1 st fun x r => k nx (sm_st1 ls n (.int x)) r g
  | .lstore n => sm_l1 st fun x r => k nx (sm_st2 ls n (.long x)) r g
  | .astore n => sm_r1 st fun x r => k nx (sm_st1 ls n (.ref x)) r g
  | .ret n => k nx ls (.int (nI n) :: st) g
  | .putstatic n => k nx ls (.int (sI n) :: st) g
  | .getstatic n => k nx ls (.long (lN n) :: st) g
  | .jsr v => k nx ls (.long (Int64.ofInt v) :: st) g
  | .multianewarray n d => sm_ldi ls n fun x => k nx (sm_st1 ls n (.int (x + nI d))) st g
  | .iinc n d => sm_ldi ls n fun x => k nx (sm_st1 ls n (.int (x + Int32.ofInt d))) st g
  | .iadd => sm_i2 st fun x y r => k nx ls (.int (x + y) :: r) g
  | .isub => sm_i2 st fun x y r => k nx ls (.int (x - y) :: r) g
  | .imul => sm_i2 st fun x y r => k nx ls (.int (x * y) :: r) g
  | .idiv => sm_i2 st fun x y r => y ≠ 0 ∧ k nx ls (.int (x / y) :: r) g
  | .irem => sm_i2 st fun x y r => y ≠ 0 ∧ k nx ls (.int (x - x / y * y) :: r) g
  | .iand => sm_i2 st fun x y r => k nx ls (.int (x &&& y) :: r) g
  | .ior => sm_i2 st fun x y r => k nx ls (.int (x ||| y) :: r) g
  | .ixor => sm_i2 st fun x y r => k nx ls (.int (x ^^^ y) :: r) g
  | .ishl => sm_i2 st fun x y r => k nx ls (.int (x <<< (y &&& 31)) :: r) g
  | .ishr => sm_i2 st fun x y r => k nx ls (.int (x >>> (y &&& 31)) :: r) g
  | .iushr => sm_i2 st fun x y r => k nx ls (.int (x.toUInt32 >>> (y.toUInt32 &&& Int32.toUInt32 31)).toInt32 :: r) g
  | .ladd => sm_l2 st fun x y r => k nx ls (.long (x + y) :: r) g
  | .lsub => sm_l2 st fun x y r => k nx ls (.long (x - y) :: r) g
  | .lmul => sm_l2 st fun x y r => k nx ls (.long (x * y) :: r) g
  | .ldiv => sm_l2 st fun x y r => y ≠ 0 ∧ k nx ls (.long (x / y) :: r) g
  | .land => sm_l2 st fun x y r => k nx ls (.long (x &&& y) :: r) g
  | .lor => sm_l2 st fun x y r => k nx ls (.long (x ||| y) :: r) g
  | .lxor => sm_l2 st fun x y r => k nx ls (.long (x ^^^ y) :: r) g
  | .lneg => sm_l1 st fun x r => k nx ls (.long (-x) :: r) g
  | .lshl => sm_li st fun x y r => k nx ls (.long (x <<< (y.toInt64 &&& 63)) :: r) g
  | .lshr => sm_li st fun x y r => k nx ls (.long (x >>> (y.toInt64 &&& 63)) :: r) g
  | .lushr => sm_li st fun x y r => k nx ls (.long (x.toUInt64 >>> (y.toInt64.toUInt64 &&& Int64.toUInt64 63)).toInt64 :: r) g
  | .lcmp => sm_l2 st fun x y r => k nx ls (.int (lg_cmp x y) :: r) g
  | .i2l => sm_i1 st fun x r => k nx ls (.long x.toInt64 :: r) g
  | .l2i => sm_l1 st fun x r => k nx ls (.int x.toInt32 :: r) g
  | .dup => (match st with | v :: r => v.category = 1 ∧ k nx ls (v :: v :: r) g | _ => False)
  | .dup2 => (match st with
    | .long x :: r => k nx ls (.long x :: .long x :: r) g
    | v :: w :: r => v.category = 1 ∧ w.category = 1 ∧ k nx ls (v :: w :: v :: w :: r) g
    | _ => False)
  | .goto t => k t.toNat ls st g
  | .ifCond .eq t => sm_i1 st fun x r => sm_bc (x = 0) (k t.toNat ls r g) (k nx ls r g)
  | .ifCond .ne t => sm_i1 st fun x r => sm_bc (x = 0) (k nx ls r g) (k t.toNat ls r g)
  | .ifCond .lt t => sm_i1 st fun x r => sm_bc (x.toInt < 0) (k t.toNat ls r g) (k nx ls r g)
  | .ifCond .ge t => sm_i1 st fun x r => sm_bc (x.toInt < 0) (k nx ls r g) (k t.toNat ls r g)
  | .ifCond .gt t => sm_i1 st fun x r => sm_bc (0 < x.toInt) (k t.toNat ls r g) (k nx ls r g)
  | .ifCond .le t => sm_i1 st fun x r => sm_bc (0 < x.toInt) (k nx ls r g) (k t.toNat ls r g)
  | .if_icmp .eq t => sm_i2 st fun x y r => sm_bc (x = y) (k t.toNat ls r g) (k nx ls r g)
  | .if_icmp .ne t => sm_i2 st fun x y r => sm_bc (x = y) (k nx ls r g) (k t.toNat ls r g)
  | .if_icmp .lt t => sm_i2 st fun x y r => sm_bc (x.toInt < y.toInt) (k t.toNat ls r g) (k nx ls r g)
  | .if_icmp .ge t => sm_i2 st fun x y r => sm_bc (x.toInt < y.toInt) (k nx ls r g) (k t.toNat ls r g)
  | .if_icmp .gt t => sm_i2 st fun x y r => sm_bc (y.toInt < x.toInt) (k t.toNat ls r g) (k nx ls r g)
  | .if_icmp .le t => sm_i2 st fun x y r => sm_bc (y.toInt < x.toInt) (k nx ls r g) (k t.toNat ls r g)
  | .tableswitch d lo hi os => sm_i1 st fun x r => (x.toInt < lo ∨ hi < x.toInt → k d.toNat ls r g) ∧ sm_tsw os.toList lo x.toInt (fun t => k t ls r g)
  | .lookupswitch d ps => sm_i1 st fun x r => sm_lsw ps.toList d x.toInt (fun t => k t ls r g)
  | .getfield c => sm_r1 st fun p r => sm_fg (sm_fd lay p c) (rS g p c) fun v => k nx ls (v :: r) g
  | .putfield c => sm_i1 st fun x r => sm_r1 r fun p r => sm_fd lay p c = 1 ∧ k nx ls r (gS g p c x)
  | .arraylength => sm_r1 st fun p r => if p = 1000 then (match xs with | some q => k nx ls (.int (nI q.1) :: r) g | none => False) else 0 < (sm_ar lay p).1 ∧ k nx ls (.int (nI (sm_ar lay p).2) :: r) g
  | .iaload => sm_ir st fun x p r => if p = 1000 then (match xs with | some q => sm_in x q.1 ∧ k nx ls (.int (q.2 x.toNatClampNeg) :: r) g | none => False) else (sm_ar lay p).1 = 1 ∧ sm_in x (sm_ar lay p).2 ∧ k nx ls (.int (rA g p x.toNatClampNeg) :: r) g
  | .baload => sm_ir st fun x p r => (sm_ar lay p).1 = 2 ∧ sm_in x (sm_ar lay p).2 ∧ k nx ls (.int (rA g p x.toNatClampNeg) :: r) g
  | .laload => sm_ir st fun x p r => (sm_ar lay p).1 = 3 ∧ sm_in x (sm_ar lay p).2 ∧ k nx ls (.long (rL g p x.toNatClampNeg) :: r) g
  | .iastore => sm_iir st fun x i p r => (sm_ar lay p).1 = 1 ∧ sm_in i (sm_ar lay p).2 ∧ k nx ls r (gA g p (upd (rA g p) i.toNatClampNeg x))
  | .bastore => sm_iir st fun x i p r => (sm_ar lay p).1 = 2 ∧ sm_in i (sm_ar lay p).2 ∧ sm_zr true x ∧ k nx ls r (gA g p (upd (rA g p) i.toNatClampNeg x))
  | .lastore => sm_lir st fun x i p r => (sm_ar lay p).1 = 3 ∧ sm_in i (sm_ar lay p).2 ∧ k nx ls r (gL g p (vp_updL (rL g p) i.toNatClampNeg x))
  | .invokeinterface mid n => sm_pop n st [] fun as r => r.length ≤ 4 ∧ cs mid as g fun v g' => k nx ls (sm_psh v r) g'
  | .ireturn => sm_i1 st fun x _ => sm_zr bz x ∧ K (some (.int x)) g
  | .lreturn => sm_l1 st fun x _ => K (some (.long x)) g
  | .areturn => sm_r1 st fun x _ => K (some (.ref x)) g
  | .return_ => K none g
  | _ => False
/-- the code, made plain: constants as numbers, targets whole, fields and methods by the class's tables -/
def sm_ck (b : Bool) (i : Instr) : Option Instr := if b = true then some i else none
def sm_cst (b : Bool) (v : Int) : Option Instr := if b = true then (if 0 ≤ v then some (.ret v.toNat) else some (.putstatic (-v - 1).toNat)) else none
def sm_nm (fl : List (Nat × Nat)) (cl : List (Nat × Nat × Nat)) (ll : List (Nat × Int)) (il : List (Nat × Nat)) (nL pc : Nat) (i : Instr) (n : Nat) : Option Instr :=
  match i with
  | .iload_n k => sm_ck (n == 1) (.iload k)
  | .lload_n k => sm_ck (n == 1) (.lload k)
  | .aload_n k => sm_ck (n == 1) (.aload k)
  | .iload k => sm_ck (n == 2) (.iload k)
  | .lload k => sm_ck (n == 2) (.lload k)
  | .aload k => sm_ck (n == 2) (.aload k)
  | .istore_n k => sm_ck (n == 1 && k.val < nL) (.istore k)
  | .lstore_n k => sm_ck (n == 1 && k.val + 1 < nL) (.lstore k)
  | .astore_n k => sm_ck (n == 1 && k.val < nL) (.astore k)
  | .istore k => sm_ck (n == 2 && k < nL) (.istore k)
  | .lstore k => sm_ck (n == 2 && k + 1 < nL) (.lstore k)
  | .astore k => sm_ck (n == 2 && k < nL) (.astore k)
  | .iconst v => sm_cst (n == 1 && -6 < v && v < 6) v
  | .bipush v => sm_cst (n == 2 && -128 ≤ v && v < 128) v
  | .sipush v => sm_cst (n == 3 && -32768 ≤ v && v < 32768) v
  | .ldc_w ix => if n = 3 then (il.lookup ix).map .ret else none
  | .ldc2_w ix => if n = 3 then (ll.lookup ix).map (fun v => if 0 ≤ v then .getstatic v.toNat else .jsr v) else none
  | .lconst k => sm_ck (n == 1) (.getstatic k)
  | .iinc k d => if (n == 3 && k < nL && -128 ≤ d && d < 128) = true then (if 0 ≤ d then some (.multianewarray k d.toNat) else some (.iinc k d)) else none
  | .goto o => sm_ck (n == 3 && 0 ≤ (pc : Int) + o) (.goto (pc + o))
  | .ifCond c o => sm_ck (n == 3 && 0 ≤ (pc : Int) + o) (.ifCond c (pc + o))
  | .if_icmp c o => sm_ck (n == 3 && 0 ≤ (pc : Int) + o) (.if_icmp c (pc + o))
  | .tableswitch d lo hi os => sm_ck (hi - lo + 1 == os.size && 0 ≤ (pc : Int) + d && os.toList.all (fun o => 0 ≤ (pc : Int) + o)) (.tableswitch (pc + d) lo hi (os.toList.map (fun o => (pc : Int) + o)).toArray)
  | .lookupswitch d ps => sm_ck ((ps.toList.zip (ps.toList.drop 1)).all (fun (a, next) => a.1 < next.1) && 0 ≤ (pc : Int) + d && ps.toList.all (fun o => 0 ≤ (pc : Int) + o.2)) (.lookupswitch (pc + d) (ps.toList.map (fun o => (o.1, (pc : Int) + o.2))).toArray)
  | .getfield ix => if n = 3 then (fl.lookup ix).map .getfield else none
  | .putfield ix => if n = 3 then (fl.lookup ix).map .putfield else none
  | .invokevirtual ix => if n = 3 then (cl.lookup ix).map (fun q => .invokeinterface q.1 q.2) else none
  | .invokestatic ix => if n = 3 then (cl.lookup ix).map (fun q => .invokeinterface q.1 q.2) else none
  | .iadd => sm_ck (n == 1) .iadd | .isub => sm_ck (n == 1) .isub | .imul => sm_ck (n == 1) .imul | .idiv => sm_ck (n == 1) .idiv | .irem => sm_ck (n == 1) .irem
  | .iand => sm_ck (n == 1) .iand | .ior => sm_ck (n == 1) .ior | .ixor => sm_ck (n == 1) .ixor | .ishl => sm_ck (n == 1) .ishl | .ishr => sm_ck (n == 1) .ishr | .iushr => sm_ck (n == 1) .iushr
  | .ladd => sm_ck (n == 1) .ladd | .lsub => sm_ck (n == 1) .lsub | .lmul => sm_ck (n == 1) .lmul | .ldiv => sm_ck (n == 1) .ldiv | .land => sm_ck (n == 1) .land | .lor => sm_ck (n == 1) .lor | .lxor => sm_ck (n == 1) .lxor | .lneg => sm_ck (n == 1) .lneg
  | .lshl => sm_ck (n == 1) .lshl | .lshr => sm_ck (n == 1) .lshr | .lushr => sm_ck (n == 1) .lushr | .lcmp => sm_ck (n == 1) .lcmp | .i2l => sm_ck (n == 1) .i2l | .l2i => sm_ck (n == 1) .l2i
  | .dup => sm_ck (n == 1) .dup | .dup2 => sm_ck (n == 1) .dup2
  | .arraylength => sm_ck (n == 1) .arraylength | .iaload => sm_ck (n == 1) .iaload | .baload => sm_ck (n == 1) .baload | .laload => sm_ck (n == 1) .laload
  | .iastore => sm_ck (n == 1) .iastore | .bastore => sm_ck (n == 1) .bastore | .lastore => sm_ck (n == 1) .lastore
  | .ireturn => sm_ck (n == 1) .ireturn | .lreturn => sm_ck (n == 1) .lreturn | .areturn => sm_ck (n == 1) .areturn | .return_ => sm_ck (n == 1) .return_
  | _ => none
/-- a class's tables: its name; fields, calls, long and int constants by their entries -/
abbrev sm_T : Type := String × List (Nat × Nat) × List (Nat × Nat × Nat) × List (Nat × Int) × List (Nat × Nat)
/-- a method's plain code: what stands at pc, where the next one stands, whether a walk stops here -/
def sm_nd (T : sm_T) (bc : ByteArray) (nL : Nat) (hd : List Nat) : sm_NF := fun pc => match decode bc pc with
  | .ok (i, n) => (sm_nm T.2.1 T.2.2.1 T.2.2.2.1 T.2.2.2.2 nL pc i n).map (fun j => (j, pc + n, hd.contains pc))
  | _ => none
section SMX
variable (lay : List ((Nat × List Nat) ⊕ (Nat × Nat))) (N : sm_NF) (cs : Nat → sm_SP) (xs : Option (Nat × (Nat → Int32))) (bz : Bool) (K : Option Value → sm_G → Prop) (X : Nat → sm_Lo → List Value → sm_G → Prop)
/-- up to n steps, till a place where walks stop -/
def sm_sx : Nat → Nat → sm_Lo → List Value → sm_G → Prop
  | 0, pc, ls, st, g => X pc ls st g
  | n + 1, pc, ls, st, g => match N pc with
    | some (i, nx, false) => sm_stp lay cs xs bz K i nx ls st g (sm_sx n)
    | some (_, _, true) => X pc ls st g
    | none => False
/-- the same; its first step is taken in any case -/
def sm_s1 (n pc : Nat) (ls : sm_Lo) (st : List Value) (g : sm_G) : Prop := match N pc with
  | some (i, nx, _) => sm_stp lay cs xs bz K i nx ls st g (sm_sx lay N cs xs bz K X n)
  | none => False
end SMX
def sm_cl (l : List (Nat × sm_SP)) (mid : Nat) : sm_SP := match l with
  | [] => fun _ _ _ => False
  | (m, s) :: r => if mid = m then s else sm_cl r mid
def sm_arg : List Value → sm_Lo
  | [] => []
  | .long x :: vs => some (.long x) :: none :: sm_arg vs
  | v :: vs => some v :: sm_arg vs
def sm_pad (n : Nat) (l : sm_Lo) : sm_Lo := l ++ List.replicate (n - l.length) none
/-- a method's body does what its spec says: over anything that walks can be read backwards in -/
def sm_body (lay : List ((Nat × List Nat) ⊕ (Nat × Nat))) (N : sm_NF) (nL : Nat) (bz : Bool) (cs : Nat → sm_SP) (sp : sm_SP) : Prop :=
  ∀ (K : Option Value → sm_G → Prop) (J : Nat → sm_Lo → List Value → sm_G → Prop), (∀ n pc ls st g, sm_s1 lay N cs none bz K J n pc ls st g → J pc ls st g) →
    ∀ as g, sp as g K → J 0 (sm_pad nL (sm_arg as)) [] g
