/-! THE PURE MACHINE: a small machine over a pure heap (a list of cells, the cell of address B + i at place i), whose steps the real machine follows (part 30). Tables of the program: part 10. -/
-- a cell: an array (number of its type, length, contents) or an object (number of its kind, its fields)
abbrev pm_E : Type := (Nat × vp_A) ⊕ (Nat × List Value)
abbrev pm_L : Type := List (Option Value)
abbrev pm_H : Type := List pm_E
-- the script: its address, its length, its ints
abbrev pm_X : Type := Nat × Nat × (Nat → Int32)
abbrev pm_R : Type := Option (Nat × pm_L × List Value × pm_H)
-- the law's own number
def pm_lj : Nat := 146
def pm_at (B : Nat) (h : pm_H) (a : Nat) : Option pm_E := if a < B then none else h[a - B]?
def pm_set (B : Nat) (h : pm_H) (a : Nat) (e : pm_E) : pm_H := h.set (a - B) e
-- how many slots a cell has
def pm_sz (e : pm_E) : Nat := match e with
  | .inl q => q.2.1
  | .inr q => q.2.length
def pm_sl (h : pm_H) : Nat := (h.map pm_sz).sum
-- locals: a store of one word, of two
def pm_c (v : Option Value) : Option Value := match v with
  | some (.long _) => none
  | some (.double _) => none
  | x => x
def pm_clr (lv : pm_L) (i : Nat) : pm_L := match i with
  | 0 => lv
  | k + 1 => lv.modify k pm_c
def pm_put1 (lv : pm_L) (i : Nat) (v : Value) : pm_L := (pm_clr lv i).set i (some v)
def pm_put2 (lv : pm_L) (i : Nat) (v : Value) : pm_L := ((pm_clr lv i).set i (some v)).set (i + 1) none
-- the locals with which a method begins
def pm_slots : List Value → pm_L
  | [] => []
  | .long x :: vs => some (.long x) :: none :: pm_slots vs
  | .double x :: vs => some (.double x) :: none :: pm_slots vs
  | v :: vs => some v :: pm_slots vs
def pm_ent (n : Nat) (vs : List Value) : pm_L := pm_slots vs ++ List.replicate (n - (pm_slots vs).length) none
def pm_w (st : List Value) : Nat := (st.map fun v => v.category).sum
-- the stack's shapes
def pm_i1 {α : Type} (st : List Value) (f : Int32 → List Value → Option α) : Option α := match st with
  | .int x :: r => f x r
  | _ => none
def pm_i2 {α : Type} (st : List Value) (f : Int32 → Int32 → List Value → Option α) : Option α := match st with
  | .int y :: .int x :: r => f x y r
  | _ => none
def pm_l1 {α : Type} (st : List Value) (f : Int64 → List Value → Option α) : Option α := match st with
  | .long x :: r => f x r
  | _ => none
def pm_l2 {α : Type} (st : List Value) (f : Int64 → Int64 → List Value → Option α) : Option α := match st with
  | .long y :: .long x :: r => f x y r
  | _ => none
def pm_li {α : Type} (st : List Value) (f : Int64 → Int32 → List Value → Option α) : Option α := match st with
  | .int y :: .long x :: r => f x y r
  | _ => none
def pm_a1 {α : Type} (st : List Value) (f : Nat → List Value → Option α) : Option α := match st with
  | .ref a :: r => f a r
  | _ => none
def pm_ai {α : Type} (st : List Value) (f : Nat → Int32 → List Value → Option α) : Option α := match st with
  | .int i :: .ref a :: r => f a i r
  | _ => none
-- a jump
def pm_j (pc : Nat) (off : Int) (f : Nat → pm_R) : pm_R := if 0 ≤ (pc : Int) + off then f ((pc : Int) + off).toNat else none
def pm_cnd (c : ClassFile.Cond) (x y : Int32) : Bool := match c with
  | .eq => decide (x = y)
  | .ne => !decide (x = y)
  | .lt => decide (x < y)
  | .ge => decide (y ≤ x)
  | .gt => decide (y < x)
  | .le => decide (x ≤ y)
-- an index within
def pm_ix (i : Int32) (n : Nat) : Bool := decide (0 ≤ i.toInt) && decide (i.toInt < (n : Int))
-- array types: 0 int, 1 long, 2 char, 3 boolean, from 4 on objects of one kind
def pm_ty (t : Nat) : FieldType := match t with
  | 0 => .int
  | 1 => .long
  | 2 => .char
  | 3 => .boolean
  | k + 4 => .object (pm_oc k)
def pm_nty (t : ArrayType) : Option Nat := match t with
  | .int => some 0
  | .long => some 1
  | .char => some 2
  | .boolean => some 3
  | _ => none
def pm_new0 (t n : Nat) : pm_E := match t with
  | 0 => .inl (0, n, .inl (fun _ => 0))
  | 1 => .inl (1, n, .inr (.inl (fun _ => 0)))
  | 2 => .inl (2, n, .inl (fun _ => 0))
  | 3 => .inl (3, n, .inl (fun _ => 0))
  | k + 4 => .inl (k + 4, n, .inr (.inr (.inr (.inr (fun _ => none)))))
-- reads of the heap
def pm_gf (e : Option pm_E) (ci k : Nat) : Option Value := match e with
  | some (.inr (c, fs)) => if c = ci then fs[k]? else none
  | _ => none
def pm_pf (e : Option pm_E) (ci k : Nat) (v : Value) : Option pm_E := match e with
  | some (.inr (c, fs)) => if c = ci ∧ k < fs.length ∧ narrow (pm_ft ci k) v = v ∧ fits (pm_ft ci k) v = true then some (.inr (c, fs.set k v)) else none
  | _ => none
def pm_ldi (t : Nat) (e : Option pm_E) (i : Int32) : Option Value := match e with
  | some (.inl (t', n, .inl f)) => if t' = t ∧ pm_tok t = true ∧ pm_ix i n = true then some (.int (f i.toNatClampNeg)) else none
  | _ => none
def pm_ldl (e : Option pm_E) (i : Int32) : Option Value := match e with
  | some (.inl (1, n, .inr (.inl f))) => if pm_tok 1 = true ∧ pm_ix i n = true then some (.long (f i.toNatClampNeg)) else none
  | _ => none
def pm_lda (e : Option pm_E) (i : Int32) : Option Value := match e with
  | some (.inl (k + 4, n, .inr (.inr (.inr (.inr f))))) => if pm_tok (k + 4) = true ∧ pm_ix i n = true then some (va_rf (f i.toNatClampNeg)) else none
  | _ => none
def pm_sti (t : Nat) (e : Option pm_E) (i x : Int32) : Option pm_E := match e with
  | some (.inl (t', n, .inl f)) => if t' = t ∧ pm_tok t = true ∧ pm_ix i n = true then some (.inl (t', n, .inl (upd f i.toNatClampNeg (vp_nar (pm_ty t) x)))) else none
  | _ => none
def pm_stl (e : Option pm_E) (i : Int32) (x : Int64) : Option pm_E := match e with
  | some (.inl (1, n, .inr (.inl f))) => if pm_tok 1 = true ∧ pm_ix i n = true then some (.inl (1, n, .inr (.inl (vp_updL f i.toNatClampNeg x)))) else none
  | _ => none
def pm_sta (e : Option pm_E) (i : Int32) (v : Nat) (ev : Option pm_E) : Option pm_E := match e, ev with
  | some (.inl (k + 4, n, .inr (.inr (.inr (.inr f))))), some (.inr (c, _)) => if c = pm_oci k ∧ pm_tok (k + 4) = true ∧ pm_ix i n = true then some (.inl (k + 4, n, .inr (.inr (.inr (.inr (va_up f i.toNatClampNeg (some v))))))) else none
  | _, _ => none
def pm_len (e : Option pm_E) : Option Value := match e with
  | some (.inl (t, n, _)) => if pm_tok t = true then some (.int (Int32.ofNat n)) else none
  | _ => none
-- a step inside a method that neither calls nor returns
def pm_st1 (B : Nat) (X : pm_X) (j : Nat) (i : Instr) (len pc : Nat) (lv : pm_L) (st : List Value) (h : pm_H) : pm_R := match i with
  | .aconst_null => some (pc + len, lv, .null :: st, h)
  | .iconst n => some (pc + len, lv, .int (Int32.ofInt n) :: st, h)
  | .bipush n => some (pc + len, lv, .int (Int8.ofInt n).toInt32 :: st, h)
  | .sipush n => some (pc + len, lv, .int (Int16.ofInt n).toInt32 :: st, h)
  | .lconst n => some (pc + len, lv, .long (Int64.ofNat n) :: st, h)
  | .ldc k => match pm_kc j k with
    | some (.int v) => some (pc + len, lv, .int v :: st, h)
    | _ => none
  | .ldc2_w k => match pm_kc j k with
    | some (.long v) => some (pc + len, lv, .long v :: st, h)
    | _ => none
  | .iload k => match lv[k]? with
    | some (some (.int x)) => some (pc + len, lv, .int x :: st, h)
    | _ => none
  | .iload_n k => match lv[(k : Nat)]? with
    | some (some (.int x)) => some (pc + len, lv, .int x :: st, h)
    | _ => none
  | .lload k => match lv[k]? with
    | some (some (.long x)) => some (pc + len, lv, .long x :: st, h)
    | _ => none
  | .lload_n k => match lv[(k : Nat)]? with
    | some (some (.long x)) => some (pc + len, lv, .long x :: st, h)
    | _ => none
  | .aload k => match lv[k]? with
    | some (some (.ref x)) => some (pc + len, lv, .ref x :: st, h)
    | some (some .null) => some (pc + len, lv, .null :: st, h)
    | _ => none
  | .aload_n k => match lv[(k : Nat)]? with
    | some (some (.ref x)) => some (pc + len, lv, .ref x :: st, h)
    | some (some .null) => some (pc + len, lv, .null :: st, h)
    | _ => none
  | .istore k => pm_i1 st fun x r => if k < lv.length then some (pc + len, pm_put1 lv k (.int x), r, h) else none
  | .istore_n k => pm_i1 st fun x r => if (k : Nat) < lv.length then some (pc + len, pm_put1 lv k (.int x), r, h) else none
  | .lstore k => pm_l1 st fun x r => if k + 1 < lv.length then some (pc + len, pm_put2 lv k (.long x), r, h) else none
  | .lstore_n k => pm_l1 st fun x r => if (k : Nat) + 1 < lv.length then some (pc + len, pm_put2 lv k (.long x), r, h) else none
  | .astore k => match st with
    | .ref x :: r => if k < lv.length then some (pc + len, pm_put1 lv k (.ref x), r, h) else none
    | .null :: r => if k < lv.length then some (pc + len, pm_put1 lv k .null, r, h) else none
    | _ => none
  | .astore_n k => match st with
    | .ref x :: r => if (k : Nat) < lv.length then some (pc + len, pm_put1 lv k (.ref x), r, h) else none
    | .null :: r => if (k : Nat) < lv.length then some (pc + len, pm_put1 lv k .null, r, h) else none
    | _ => none
  | .iinc k n => match lv[k]? with
    | some (some (.int x)) => some (pc + len, pm_put1 lv k (.int (x + Int32.ofInt n)), st, h)
    | _ => none
  | .iadd => pm_i2 st fun x y r => some (pc + len, lv, .int (x + y) :: r, h)
  | .isub => pm_i2 st fun x y r => some (pc + len, lv, .int (x - y) :: r, h)
  | .imul => pm_i2 st fun x y r => some (pc + len, lv, .int (x * y) :: r, h)
  | .iand => pm_i2 st fun x y r => some (pc + len, lv, .int (x &&& y) :: r, h)
  | .ior => pm_i2 st fun x y r => some (pc + len, lv, .int (x ||| y) :: r, h)
  | .ixor => pm_i2 st fun x y r => some (pc + len, lv, .int (x ^^^ y) :: r, h)
  | .idiv => pm_i2 st fun x y r => if y = 0 then none else some (pc + len, lv, .int (x / y) :: r, h)
  | .irem => pm_i2 st fun x y r => if y = 0 then none else some (pc + len, lv, .int (x - x / y * y) :: r, h)
  | .ineg => pm_i1 st fun x r => some (pc + len, lv, .int (-x) :: r, h)
  | .ishl => pm_i2 st fun x y r => some (pc + len, lv, .int (x <<< (y &&& 31)) :: r, h)
  | .ishr => pm_i2 st fun x y r => some (pc + len, lv, .int (x >>> (y &&& 31)) :: r, h)
  | .iushr => pm_i2 st fun x y r => some (pc + len, lv, .int (x.toUInt32 >>> (y.toUInt32 &&& Int32.toUInt32 31)).toInt32 :: r, h)
  | .ladd => pm_l2 st fun x y r => some (pc + len, lv, .long (x + y) :: r, h)
  | .lsub => pm_l2 st fun x y r => some (pc + len, lv, .long (x - y) :: r, h)
  | .lmul => pm_l2 st fun x y r => some (pc + len, lv, .long (x * y) :: r, h)
  | .land => pm_l2 st fun x y r => some (pc + len, lv, .long (x &&& y) :: r, h)
  | .lor => pm_l2 st fun x y r => some (pc + len, lv, .long (x ||| y) :: r, h)
  | .lxor => pm_l2 st fun x y r => some (pc + len, lv, .long (x ^^^ y) :: r, h)
  | .ldiv => pm_l2 st fun x y r => if y = 0 then none else some (pc + len, lv, .long (x / y) :: r, h)
  | .lrem => pm_l2 st fun x y r => if y = 0 then none else some (pc + len, lv, .long (x - x / y * y) :: r, h)
  | .lneg => pm_l1 st fun x r => some (pc + len, lv, .long (-x) :: r, h)
  | .lshl => pm_li st fun x y r => some (pc + len, lv, .long (x <<< (y.toInt64 &&& 63)) :: r, h)
  | .lshr => pm_li st fun x y r => some (pc + len, lv, .long (x >>> (y.toInt64 &&& 63)) :: r, h)
  | .lushr => pm_li st fun x y r => some (pc + len, lv, .long (x.toUInt64 >>> (y.toInt64.toUInt64 &&& Int64.toUInt64 63)).toInt64 :: r, h)
  | .lcmp => pm_l2 st fun x y r => some (pc + len, lv, .int (lg_cmp x y) :: r, h)
  | .i2l => pm_i1 st fun x r => some (pc + len, lv, .long x.toInt64 :: r, h)
  | .l2i => pm_l1 st fun x r => some (pc + len, lv, .int x.toInt32 :: r, h)
  | .i2c => pm_i1 st fun x r => some (pc + len, lv, .int (x.toUInt32 % 65536).toInt32 :: r, h)
  | .i2b => pm_i1 st fun x r => some (pc + len, lv, .int x.toInt8.toInt32 :: r, h)
  | .i2s => pm_i1 st fun x r => some (pc + len, lv, .int x.toInt16.toInt32 :: r, h)
  | .pop => match st with
    | v :: r => if v.category = 1 then some (pc + len, lv, r, h) else none
    | _ => none
  | .dup => match st with
    | v :: r => if v.category = 1 then some (pc + len, lv, v :: v :: r, h) else none
    | _ => none
  | .dup_x1 => match st with
    | v :: w :: r => if v.category = 1 ∧ w.category = 1 then some (pc + len, lv, v :: w :: v :: r, h) else none
    | _ => none
  | .dup_x2 => match st with
    | v :: w :: z :: r => if v.category = 1 ∧ w.category = 1 ∧ z.category = 1 then some (pc + len, lv, v :: w :: z :: v :: r, h) else none
    | _ => none
  | .dup2 => match st with
    | .long x :: r => some (pc + len, lv, .long x :: .long x :: r, h)
    | v :: w :: r => if v.category = 1 ∧ w.category = 1 then some (pc + len, lv, v :: w :: v :: w :: r, h) else none
    | _ => none
  | .pop2 => match st with
    | .long _ :: r => some (pc + len, lv, r, h)
    | v :: w :: r => if v.category = 1 ∧ w.category = 1 then some (pc + len, lv, r, h) else none
    | _ => none
  | .dup2_x1 => match st with
    | .long x :: w :: r => if w.category = 1 then some (pc + len, lv, .long x :: w :: .long x :: r, h) else none
    | _ => none
  | .dup2_x2 => match st with
    | .long x :: w :: z :: r => if w.category = 1 ∧ z.category = 1 then some (pc + len, lv, .long x :: w :: z :: .long x :: r, h) else none
    | _ => none
  | .ifCond c off => pm_i1 st fun x r => pm_j pc off fun t => some (if pm_cnd c x 0 then t else pc + len, lv, r, h)
  | .if_icmp c off => pm_i2 st fun x y r => pm_j pc off fun t => some (if pm_cnd c x y then t else pc + len, lv, r, h)
  | .goto off => pm_j pc off fun t => some (t, lv, st, h)
  | .ifnull off => match st with
    | .ref _ :: r => some (pc + len, lv, r, h)
    | .null :: r => pm_j pc off fun t => some (t, lv, r, h)
    | _ => none
  | .ifnonnull off => match st with
    | .ref _ :: r => pm_j pc off fun t => some (t, lv, r, h)
    | .null :: r => some (pc + len, lv, r, h)
    | _ => none
  | .tableswitch d lo hi offs => pm_i1 st fun x r => if x.toInt < lo ∨ hi < x.toInt then pm_j pc d fun t => some (t, lv, r, h) else match offs[(x.toInt - lo).toNat]? with
    | some off => pm_j pc off fun t => some (t, lv, r, h)
    | none => none
  | .lookupswitch d ps => pm_i1 st fun x r => if (ps.toList.zip (ps.toList.drop 1)).all (fun (a, next) => a.1 < next.1) = true then pm_j pc (Op.lookupswitch.offset ps.toList d x.toInt) fun t => some (t, lv, r, h) else none
  | .getfield k => match pm_fl j k with
    | some (ci, f) => pm_a1 st fun a r => (pm_gf (pm_at B h a) ci f).bind fun v => some (pc + len, lv, v :: r, h)
    | none => none
  | .putfield k => match pm_fp j k, st with
    | some (ci, f), v :: .ref a :: r => (pm_pf (pm_at B h a) ci f v).bind fun e => some (pc + len, lv, r, pm_set B h a e)
    | _, _ => none
  | .iaload => pm_ai st fun a i r => cond (Nat.beq j pm_lj) (if a = X.1 ∧ pm_ix i X.2.1 = true then some (pc + len, lv, .int (X.2.2 i.toNatClampNeg) :: r, h) else none) ((pm_ldi 0 (pm_at B h a) i).bind fun v => some (pc + len, lv, v :: r, h))
  | .caload => pm_ai st fun a i r => (pm_ldi 2 (pm_at B h a) i).bind fun v => some (pc + len, lv, v :: r, h)
  | .baload => pm_ai st fun a i r => (pm_ldi 3 (pm_at B h a) i).bind fun v => some (pc + len, lv, v :: r, h)
  | .laload => pm_ai st fun a i r => (pm_ldl (pm_at B h a) i).bind fun v => some (pc + len, lv, v :: r, h)
  | .aaload => pm_ai st fun a i r => (pm_lda (pm_at B h a) i).bind fun v => some (pc + len, lv, v :: r, h)
  | .iastore => match st with
    | .int x :: .int i :: .ref a :: r => (pm_sti 0 (pm_at B h a) i x).bind fun e => some (pc + len, lv, r, pm_set B h a e)
    | _ => none
  | .castore => match st with
    | .int x :: .int i :: .ref a :: r => (pm_sti 2 (pm_at B h a) i x).bind fun e => some (pc + len, lv, r, pm_set B h a e)
    | _ => none
  | .bastore => match st with
    | .int x :: .int i :: .ref a :: r => (pm_sti 3 (pm_at B h a) i x).bind fun e => some (pc + len, lv, r, pm_set B h a e)
    | _ => none
  | .lastore => match st with
    | .long x :: .int i :: .ref a :: r => (pm_stl (pm_at B h a) i x).bind fun e => some (pc + len, lv, r, pm_set B h a e)
    | _ => none
  | .aastore => match st with
    | .ref v :: .int i :: .ref a :: r => (pm_sta (pm_at B h a) i v (pm_at B h v)).bind fun e => some (pc + len, lv, r, pm_set B h a e)
    | _ => none
  | .arraylength => pm_a1 st fun a r => cond (Nat.beq j pm_lj) (if a = X.1 then some (pc + len, lv, .int (Int32.ofNat X.2.1) :: r, h) else none) ((pm_len (pm_at B h a)).bind fun v => some (pc + len, lv, v :: r, h))
  | .new k => match pm_nw j k with
    | some ci => some (pc + len, lv, .ref (B + h.length) :: st, h ++ [.inr (ci, pm_cf ci)])
    | none => none
  | .newarray t => match pm_nty t with
    | some t => pm_i1 st fun n r => if pm_tok t = true ∧ pm_ix n 65536 = true then some (pc + len, lv, .ref (B + h.length) :: r, h ++ [pm_new0 t n.toNatClampNeg]) else none
    | none => none
  | .anewarray k => match pm_an j k with
    | some t => pm_i1 st fun n r => if pm_tok (t + 4) = true ∧ pm_ix n 65536 = true then some (pc + len, lv, .ref (B + h.length) :: r, h ++ [pm_new0 (t + 4) n.toNatClampNeg]) else none
    | none => none
  | .invokestatic k => match pm_mt j k with
    | some 0 => pm_i1 st fun x r => if pm_w r ≤ 8 then some (pc + len, lv, .int (if 0 ≤ x then x else 0 - x) :: r, h) else none
    | some 1 => pm_l1 st fun x r => if pm_w r ≤ 8 then some (pc + len, lv, .long (if 0 < x then x else -x) :: r, h) else none
    | some 2 => pm_i2 st fun x y r => if pm_w r ≤ 8 then some (pc + len, lv, .int (if x < y then y else x) :: r, h) else none
    | some 3 => pm_i2 st fun x y r => if pm_w r ≤ 8 then some (pc + len, lv, .int (if y < x then y else x) :: r, h) else none
    | _ => none
  | .invokespecial k => match pm_ob j k, st with
    | true, .ref _ :: r => if pm_w r ≤ 8 then some (pc + len, lv, r, h) else none
    | _, _ => none
  | _ => none
-- a return: what is answered
def pm_rt (j : Nat) (i : Instr) (st : List Value) : Option (Option Value) := match i with
  | .return_ => match st with
    | [] => if pm_rty j = none then some none else none
    | _ => none
  | .ireturn => match st with
    | [.int v] => match pm_rty j with
      | some .int => some (some (.int v))
      | some ty => if (ty = .boolean ∨ ty = .char) ∧ narrow ty (.int v) = .int v then some (some (.int v)) else none
      | none => none
    | _ => none
  | .lreturn => match st with
    | [.long v] => if pm_rty j = some .long then some (some (.long v)) else none
    | _ => none
  | .areturn => match st with
    | [.ref a] => match pm_rty j with
      | some (.object _) => some (some (.ref a))
      | some (.array _) => some (some (.ref a))
      | _ => none
    | [.null] => match pm_rty j with
      | some (.object _) => some (some .null)
      | some (.array _) => some (some .null)
      | _ => none
    | _ => none
  | _ => none
-- a call: the method, its arguments, the rest of the stack. Kinds: 0 static, 1 virtual, 2 special (constructors)
def pm_args (st : List Value) : Nat → Option (List Value × List Value)
  | 0 => some ([], st)
  | n + 1 => (pm_args st n).bind fun q => match q.2 with
    | v :: r => some (v :: q.1, r)
    | [] => none
def pm_rc (B : Nat) (h : pm_H) (y : Nat) (as : List Value) : Bool := match pm_kd y with
  | 0 => true
  | 1 => match as with
    | .ref a :: _ => match pm_at B h a with
      | some (.inr (c, _)) => c == pm_ci y
      | _ => false
    | _ => false
  | _ => match as with
    | .ref _ :: _ => true
    | _ => false
def pm_tg (j : Nat) (i : Instr) : Option Nat := match i with
  | .invokestatic k => (pm_iv j k).bind fun y => if pm_kd y = 0 then some y else none
  | .invokevirtual k => (pm_iv j k).bind fun y => if pm_kd y = 1 then some y else none
  | .invokespecial k => (pm_iv j k).bind fun y => if pm_kd y = 2 then some y else none
  | _ => none
def pm_cl (B : Nat) (j : Nat) (i : Instr) (st : List Value) (h : pm_H) : Option (Nat × List Value × List Value) :=
  (pm_tg j i).bind fun y => (pm_args st (pm_na y)).bind fun q =>
    if pm_dep y < pm_dep j ∧ 19 + pm_ml y + pm_loc y ≤ pm_loc j ∧ pm_w q.2 ≤ 8 ∧ (pm_slots q.1).length ≤ pm_ml y ∧ pm_rc B h y q.1 = true then some (y, q.1, q.2) else none
-- the run of a method, with fuel
def pm_run (B : Nat) (X : pm_X) : Nat → Nat → Nat → pm_L → List Value → pm_H → Option (Option Value × pm_H)
  | 0, _, _, _, _, _ => none
  | n + 1, j, pc, lv, st, h => (pm_cd j pc).bind fun q => match pm_rt j q.1 st with
    | some r => some (r, h)
    | none => match pm_tg j q.1 with
      | some _ => (pm_cl B j q.1 st h).bind fun c => (pm_run B X n c.1 0 (pm_ent (pm_ml c.1) c.2.1) [] h).bind fun o => pm_run B X n j (pc + q.2) lv (o.1.toList ++ c.2.2) o.2
      | none => (pm_st1 B X j q.1 q.2 pc lv st h).bind fun o => pm_run B X n j o.1 o.2.1 o.2.2.1 o.2.2.2
theorem pm_mono1 {B : Nat} {X : pm_X} : ∀ (n j pc : Nat) (lv : pm_L) (st : List Value) (h : pm_H) (o : Option Value × pm_H), pm_run B X n j pc lv st h = some o → pm_run B X (n + 1) j pc lv st h = some o := by
  intro n
  induction n with
  | zero => intro j pc lv st h o e; simp [pm_run] at e
  | succ n ih =>
    intro j pc lv st h o e
    rw [pm_run] at e ⊢
    cases hc : pm_cd j pc with
    | none => rw [hc] at e; simp at e
    | some q =>
      rw [hc] at e
      simp only [Option.bind_some] at e ⊢
      cases hr : pm_rt j q.1 st with
      | some r => rw [hr] at e; exact e
      | none =>
        rw [hr] at e
        dsimp only at e ⊢
        cases ht : pm_tg j q.1 with
        | some y =>
          rw [ht] at e
          dsimp only at e ⊢
          cases hl : pm_cl B j q.1 st h with
          | none => rw [hl] at e; simp at e
          | some c =>
            rw [hl] at e
            simp only [Option.bind_some] at e ⊢
            cases h1 : pm_run B X n c.1 0 (pm_ent (pm_ml c.1) c.2.1) [] h with
            | none => rw [h1] at e; simp at e
            | some o1 =>
              rw [h1] at e
              rw [ih _ _ _ _ _ _ h1]
              simp only [Option.bind_some] at e ⊢
              exact ih _ _ _ _ _ _ e
        | none =>
          rw [ht] at e
          dsimp only at e ⊢
          cases hs : pm_st1 B X j q.1 q.2 pc lv st h with
          | none => rw [hs] at e; simp at e
          | some o1 =>
            rw [hs] at e
            simp only [Option.bind_some] at e ⊢
            exact ih _ _ _ _ _ _ e
theorem pm_mono {B : Nat} {X : pm_X} {n j pc : Nat} {lv : pm_L} {st : List Value} {h : pm_H} {o : Option Value × pm_H} (e : pm_run B X n j pc lv st h = some o) : ∀ k, pm_run B X (n + k) j pc lv st h = some o
  | 0 => e
  | k + 1 => pm_mono1 _ _ _ _ _ _ _ (pm_mono e k)
/-- the judgement: from here the method returns, with Q of its answer and of the heap -/
def PW (B : Nat) (X : pm_X) (j pc : Nat) (lv : pm_L) (st : List Value) (h : pm_H) (Q : Option Value → pm_H → Prop) : Prop := ∃ (n : Nat) (o : Option Value × pm_H), pm_run B X n j pc lv st h = some o ∧ Q o.1 o.2
section PMR
variable {B : Nat} {X : pm_X} {j pc : Nat} {lv : pm_L} {st : List Value} {h : pm_H} {Q : Option Value → pm_H → Prop}
theorem PW_mono {Q' : Option Value → pm_H → Prop} (w : PW B X j pc lv st h Q) (k : ∀ r h', Q r h' → Q' r h') : PW B X j pc lv st h Q' := by
  obtain ⟨n, o, e, q⟩ := w
  exact ⟨n, o, e, k _ _ q⟩
theorem PW_step {i : Instr} {len pc' : Nat} {lv' : pm_L} {st' : List Value} {h' : pm_H} (hc : pm_cd j pc = some (i, len)) (hr : pm_rt j i st = none) (hl : pm_tg j i = none) (hs : pm_st1 B X j i len pc lv st h = some (pc', lv', st', h')) : PW B X j pc lv st h Q ↔ PW B X j pc' lv' st' h' Q := by
  constructor
  · rintro ⟨n, o, e, q⟩
    cases n with
    | zero => simp [pm_run] at e
    | succ n =>
      rw [pm_run, hc] at e
      simp only [Option.bind_some, hr, hl, hs] at e
      exact ⟨n, o, e, q⟩
  · rintro ⟨n, o, e, q⟩
    refine ⟨n + 1, o, ?_, q⟩
    rw [pm_run, hc]
    simp only [Option.bind_some, hr, hl, hs]
    exact e
theorem PW_ret {i : Instr} {len : Nat} {r : Option Value} (hc : pm_cd j pc = some (i, len)) (hr : pm_rt j i st = some r) : PW B X j pc lv st h Q ↔ Q r h := by
  constructor
  · rintro ⟨n, o, e, q⟩
    cases n with
    | zero => simp [pm_run] at e
    | succ n =>
      rw [pm_run, hc] at e
      simp only [Option.bind_some, hr] at e
      cases e
      exact q
  · intro q
    refine ⟨1, (r, h), ?_, q⟩
    rw [pm_run, hc]
    simp only [Option.bind_some, hr]
theorem PW_call {i : Instr} {len y y0 : Nat} {as rest : List Value} (hc : pm_cd j pc = some (i, len)) (hr : pm_rt j i st = none) (ht : pm_tg j i = some y0) (hl : pm_cl B j i st h = some (y, as, rest)) :
    PW B X j pc lv st h Q ↔ PW B X y 0 (pm_ent (pm_ml y) as) [] h (fun r h' => PW B X j (pc + len) lv (r.toList ++ rest) h' Q) := by
  constructor
  · rintro ⟨n, o, e, q⟩
    cases n with
    | zero => simp [pm_run] at e
    | succ n =>
      rw [pm_run, hc] at e
      simp only [Option.bind_some, hr, ht, hl] at e
      cases h1 : pm_run B X n y 0 (pm_ent (pm_ml y) as) [] h with
      | none => rw [h1] at e; simp at e
      | some o1 =>
        rw [h1] at e
        simp only [Option.bind_some] at e
        exact ⟨n, o1, h1, n, o, e, q⟩
  · rintro ⟨n1, o1, e1, n2, o, e, q⟩
    refine ⟨(n1 + n2) + 1, o, ?_, q⟩
    rw [pm_run, hc]
    simp only [Option.bind_some, hr, ht, hl]
    rw [pm_mono e1 n2]
    simp only [Option.bind_some]
    rw [Nat.add_comm n1 n2]
    exact pm_mono e n1
theorem PW_ite {c : Bool} {t f : Nat} : PW B X j (if c then t else f) lv st h Q ↔ (if c then PW B X j t lv st h Q else PW B X j f lv st h Q) := by
  cases c <;> exact Iff.rfl
end PMR
