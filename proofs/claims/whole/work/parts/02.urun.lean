/-! ===== A machine of few words: a heap of cells by number, one frame, steps by instruction; what it does the machine does (part 04) ===== -/
/-- a cell: an array (kind of its elements: 0 byte, 1 int, 2 long, 3 boolean, 4 Rule, 5 State, 6 World, 9 the script) or an object (number of its class, fields) -/
abbrev UE : Type := (Nat × vp_A) ⊕ (Nat × List Value)
/-- cells, the next free number, slots in use -/
abbrev UH : Type := (Nat → UE) × Nat × Nat
/-- an instruction, and what its numbers stand for -/
abbrev UI : Type := Instr × List Nat
abbrev UR : Type := Option Value × UH
/-- pc, locals, stack, heap -/
abbrev UC : Type := Nat × List (Option Value) × List Value × UH
def u_ld (L : List (Option Value)) (i : Nat) : Option Value := L.getD i none
def u_cl (L : List (Option Value)) (i : Nat) : List (Option Value) := match i with
  | 0 => L
  | j + 1 => match L.getD j none with
    | some (.long _) => L.set j none
    | some (.double _) => L.set j none
    | _ => L
def u_st1 (L : List (Option Value)) (i : Nat) (v : Value) : List (Option Value) := (u_cl L i).set i (some v)
def u_st2 (L : List (Option Value)) (i : Nat) (v : Value) : List (Option Value) := ((u_cl L i).set i (some v)).set (i + 1) none
/-- locals that are forgotten -/
def u_fg (L L' : List (Option Value)) : Prop := L'.length = L.length ∧ ∀ (i : Nat) (v : Value), L'[i]? = some (some v) → L[i]? = some (some v)
def u_cond (c : ClassFile.Cond) (x y : Int32) : Prop := match c with
  | .eq => x = y
  | .ne => ¬ x = y
  | .lt => x < y
  | .ge => y ≤ x
  | .gt => y < x
  | .le => x ≤ y
abbrev UO : Type := Option (UC ⊕ UR)
def u_go (pc : Nat) (L : List (Option Value)) (st : List Value) (h : UH) : UO := some (.inl (pc, L, st, h))
def u_int (pc : Nat) (L : List (Option Value)) (r : List Value) (h : UH) (x : Int32) : UO := some (.inl (pc, L, .int x :: r, h))
def u_lng (pc : Nat) (L : List (Option Value)) (r : List Value) (h : UH) (x : Int64) : UO := some (.inl (pc, L, .long x :: r, h))
/-- loads by kind: 0 int, 1 long, 2 reference -/
def u_lod (t : Nat) (i : Nat) (pc len : Nat) (L : List (Option Value)) (st : List Value) (h : UH) : UO := match t, u_ld L i with
  | 0, some (.int x) => some (.inl (pc + len, L, .int x :: st, h))
  | 1, some (.long x) => some (.inl (pc + len, L, .long x :: st, h))
  | 2, some (.ref a) => some (.inl (pc + len, L, .ref a :: st, h))
  | 2, some .null => some (.inl (pc + len, L, .null :: st, h))
  | _, _ => none
def u_sto (t : Nat) (i : Nat) (pc len : Nat) (L : List (Option Value)) (st : List Value) (h : UH) : UO := match t, st with
  | 0, .int x :: r => if i < L.length then some (.inl (pc + len, u_st1 L i (.int x), r, h)) else none
  | 1, .long x :: r => if i + 1 < L.length then some (.inl (pc + len, u_st2 L i (.long x), r, h)) else none
  | 2, .ref a :: r => if i < L.length then some (.inl (pc + len, u_st1 L i (.ref a), r, h)) else none
  | 2, .null :: r => if i < L.length then some (.inl (pc + len, u_st1 L i .null, r, h)) else none
  | _, _ => none
def u_iop (f : Int32 → Int32 → Int32) (pc : Nat) (L : List (Option Value)) (st : List Value) (h : UH) : UO := match st with
  | .int y :: .int x :: r => some (.inl (pc + 1, L, .int (f x y) :: r, h))
  | _ => none
def u_lop (f : Int64 → Int64 → Int64) (pc : Nat) (L : List (Option Value)) (st : List Value) (h : UH) : UO := match st with
  | .long y :: .long x :: r => some (.inl (pc + 1, L, .long (f x y) :: r, h))
  | _ => none
def u_if (c : ClassFile.Cond) (x y : Int32) (t f : Nat) (L : List (Option Value)) (r : List Value) (h : UH) : UO := match c with
  | .eq => if x = y then some (.inl (t, L, r, h)) else some (.inl (f, L, r, h))
  | .ne => if x = y then some (.inl (f, L, r, h)) else some (.inl (t, L, r, h))
  | .lt => if x < y then some (.inl (t, L, r, h)) else some (.inl (f, L, r, h))
  | .ge => if y ≤ x then some (.inl (t, L, r, h)) else some (.inl (f, L, r, h))
  | .gt => if y < x then some (.inl (t, L, r, h)) else some (.inl (f, L, r, h))
  | .le => if x ≤ y then some (.inl (t, L, r, h)) else some (.inl (f, L, r, h))
/-- an element that is read -/
def u_ald (k : Nat) (h : UH) (a : Nat) (i : Int32) : Option Value := match h.1 a with
  | .inl (t, n, .inl f) => if i < 0 ∨ n ≤ i.toNatClampNeg then none else match k with
    | 0 => if t = 0 ∨ t = 3 then some (.int (f i.toNatClampNeg)) else none
    | 1 => if t = 1 ∨ t = 9 then some (.int (f i.toNatClampNeg)) else none
    | _ => none
  | .inl (t, n, .inr (.inl f)) => if i < 0 ∨ n ≤ i.toNatClampNeg then none else if k = 2 ∧ t = 2 then some (.long (f i.toNatClampNeg)) else none
  | .inl (t, n, .inr (.inr (.inr (.inr f)))) => if i < 0 ∨ n ≤ i.toNatClampNeg then none else if k = 4 ∧ (t = 4 ∨ t = 5 ∨ t = 6) then some (va_rf (f i.toNatClampNeg)) else none
  | _ => none
/-- the class of an object, as far as it is one -/
def u_cls (h : UH) (a : Nat) : Nat := match h.1 a with
  | .inr (c, _) => c
  | _ => 99
def u_ocl (t : Nat) : Nat := if t = 4 then 4 else if t = 5 then 8 else if t = 6 then 10 else 98
/-- a cell with an element put -/
def u_ast (k : Nat) (h : UH) (a : Nat) (i : Int32) (v : Value) : Option UE := match h.1 a, v with
  | .inl (t, n, .inl f), .int x => if i < 0 ∨ n ≤ i.toNatClampNeg then none else match k with
    | 0 => if t = 0 then some (.inl (t, n, .inl (upd f i.toNatClampNeg (vp_nar .byte x)))) else if t = 3 then some (.inl (t, n, .inl (upd f i.toNatClampNeg (vp_nar .boolean x)))) else none
    | 1 => if t = 1 then some (.inl (t, n, .inl (upd f i.toNatClampNeg x))) else none
    | _ => none
  | .inl (t, n, .inr (.inl f)), .long x => if i < 0 ∨ n ≤ i.toNatClampNeg then none else if k = 2 ∧ t = 2 then some (.inl (t, n, .inr (.inl (vp_updL f i.toNatClampNeg x)))) else none
  | .inl (t, n, .inr (.inr (.inr (.inr f)))), .ref y => if i < 0 ∨ n ≤ i.toNatClampNeg then none else if k = 4 ∧ (t = 4 ∨ t = 5 ∨ t = 6) ∧ u_cls h y = u_ocl t then some (.inl (t, n, .inr (.inr (.inr (.inr (va_up f i.toNatClampNeg (some y))))))) else none
  | _, _ => none
def u_al (k : Nat) (pc : Nat) (L : List (Option Value)) (st : List Value) (h : UH) : UO := match st with
  | .int i :: .ref a :: r => match u_ald k h a i with
    | some v => some (.inl (pc + 1, L, v :: r, h))
    | none => none
  | _ => none
def u_as (k : Nat) (pc : Nat) (L : List (Option Value)) (st : List Value) (h : UH) : UO := match st with
  | v :: .int i :: .ref a :: r => match u_ast k h a i v with
    | some e => some (.inl (pc + 1, L, r, (va_up h.1 a e, h.2.1, h.2.2)))
    | none => none
  | _ => none
def u_len (h : UH) (a : Nat) : Option Nat := match h.1 a with
  | .inl (t, n, _) => if t < 7 ∨ t = 9 then some n else none
  | _ => none
/-- what a field may hold: 0 int, 1 long, 2 boolean, 3 a reference -/
def u_fit (t : Nat) (v : Value) : Bool := match t, v with
  | 0, .int _ => true
  | 1, .long _ => true
  | 2, .int x => x == 0 || x == 1
  | 3, .ref _ => true
  | 3, .null => true
  | _, _ => false
def u_gf (ci k : Nat) (h : UH) (a : Nat) : Option Value := match h.1 a with
  | .inr (c, fs) => if c = ci then fs[k]? else none
  | _ => none
def u_pf (ci k t : Nat) (h : UH) (a : Nat) (v : Value) : Option UE := match h.1 a with
  | .inr (c, fs) => if c = ci ∧ k < fs.length ∧ u_fit t v = true then some (.inr (c, fs.set k v)) else none
  | _ => none
def u_zero (t N : Nat) : Option UE := match t with
  | 0 => some (.inl (0, N, .inl (fun _ => 0)))
  | 1 => some (.inl (1, N, .inl (fun _ => 0)))
  | 2 => some (.inl (2, N, .inr (.inl (fun _ => 0))))
  | 3 => some (.inl (3, N, .inl (fun _ => 0)))
  | _ => none
def u_none : Nat → Option Nat := fun _ => none
/-- arraycopy of ints -/
def u_cpy (h : UH) (a0 a : Nat) (sp dp n : Int32) : Option UE := match h.1 a0, h.1 a with
  | .inl (1, n0, .inl f), .inl (1, n1, .inl g) => if sp < 0 ∨ dp < 0 ∨ n < 0 ∨ ¬ (sp.toNatClampNeg + n.toNatClampNeg ≤ n0) ∨ ¬ (dp.toNatClampNeg + n.toNatClampNeg ≤ n1) then none else some (.inl (1, n1, .inl (va_cpy f g sp.toNatClampNeg dp.toNatClampNeg n.toNatClampNeg)))
  | _, _ => none
def u_cat (v : Value) : Nat := v.category

/-- fields of a new object -/
def u_def : Nat → List Value
  | 0 => [.null, .int 0, .int 0, .int 0, .int 0, .int 0, .int 0, .int 0, .int 0, .long 0, .int 0, .int 0]
  | 1 => [.int 0, .int 0, .int 0, .int 0, .int 0, .null, .null, .null, .null, .null, .null, .null, .null]
  | 2 => [.null, .int 0]
  | 3 => [.null, .int 0, .null, .null, .null, .int 0, .int 0, .int 0]
  | 4 => [.null, .null, .null, .null]
  | 5 => [.null, .null, .int 0, .int 0, .null, .null]
  | 6 => [.int 0, .int 0, .int 0, .int 0, .null, .null, .null, .null, .null, .null, .null, .null, .null, .null, .null, .null]
  | 7 => [.null, .int 0, .long 0, .int 0, .int 0, .int 0, .null, .null, .int 0, .int 0, .int 0, .int 0, .int 0]
  | 8 => [.null, .int 0, .int 0, .int 0, .null, .null, .null, .null, .null, .null, .null, .null, .null, .null]
  | 9 => [.null, .int 0, .null, .null, .null, .null, .null, .null, .null]
  | 10 => [.null, .null, .int 0, .int 0, .int 0, .int 0, .null, .null, .null]
  | 11 => [.null, .int 0, .null, .null, .null, .null, .int 0, .null, .null, .null, .long 0, .null, .null, .null, .null]
  | 12 => [.null, .int 0, .int 0, .null, .null, .null, .null, .null, .int 0, .int 0, .int 0, .int 0, .int 0, .int 0, .int 0, .null, .int 0, .null, .int 0, .null, .null, .int 0, .null, .int 0, .null, .null, .null, .null, .null, .null, .null, .int 0, .null, .null, .null, .null, .null, .null, .null, .int 0, .null, .null, .null, .null, .null, .null, .long 0, .null, .null, .null, .null, .null]
  | _ => []
def u_new (h : UH) (e : UE) (n : Nat) : UH := (va_up h.1 h.2.1 e, h.2.1 + 1, h.2.2 + n)
def v_ldc (rs : List Nat) (pc : Nat) (L : List (Option Value)) (st : List Value) (h : UH) : UO := match rs with
  | [v] => some (.inl (pc + 2, L, .int (Int32.ofNat v) :: st, h))
  | _ => none
def v_ldc_w (rs : List Nat) (pc : Nat) (L : List (Option Value)) (st : List Value) (h : UH) : UO := match rs with
  | [v] => some (.inl (pc + 3, L, .int (Int32.ofNat v) :: st, h))
  | _ => none
def v_ldc2_w (rs : List Nat) (pc : Nat) (L : List (Option Value)) (st : List Value) (h : UH) : UO := match rs with
  | [v] => some (.inl (pc + 3, L, .long (Int64.ofNat v) :: st, h))
  | _ => none
def v_iinc (k : Nat) (n : Int) (rs : List Nat) (pc : Nat) (L : List (Option Value)) (st : List Value) (h : UH) : UO := match u_ld L k with
  | some (.int x) => if k < L.length then some (.inl (pc + 3, u_st1 L k (.int (x + Int32.ofInt n)), st, h)) else none
  | _ => none
def v_dup (rs : List Nat) (pc : Nat) (L : List (Option Value)) (st : List Value) (h : UH) : UO := match st with
  | v :: r => if v.category = 1 then some (.inl (pc + 1, L, v :: v :: r, h)) else none
  | _ => none
def v_pop (rs : List Nat) (pc : Nat) (L : List (Option Value)) (st : List Value) (h : UH) : UO := match st with
  | v :: r => if v.category = 1 then some (.inl (pc + 1, L, r, h)) else none
  | _ => none
def v_dup2 (rs : List Nat) (pc : Nat) (L : List (Option Value)) (st : List Value) (h : UH) : UO := match st with
  | .int a :: .ref b :: r => some (.inl (pc + 1, L, .int a :: .ref b :: .int a :: .ref b :: r, h))
  | .long a :: r => some (.inl (pc + 1, L, .long a :: .long a :: r, h))
  | _ => none
def v_pop2 (rs : List Nat) (pc : Nat) (L : List (Option Value)) (st : List Value) (h : UH) : UO := match st with
  | .long _ :: r => some (.inl (pc + 1, L, r, h))
  | _ => none
def v_idiv (rs : List Nat) (pc : Nat) (L : List (Option Value)) (st : List Value) (h : UH) : UO := match st with
  | .int y :: .int x :: r => if y = 0 then none else some (.inl (pc + 1, L, .int (x / y) :: r, h))
  | _ => none
def v_irem (rs : List Nat) (pc : Nat) (L : List (Option Value)) (st : List Value) (h : UH) : UO := match st with
  | .int y :: .int x :: r => if y = 0 then none else some (.inl (pc + 1, L, .int (x - x / y * y) :: r, h))
  | _ => none
def v_ineg (rs : List Nat) (pc : Nat) (L : List (Option Value)) (st : List Value) (h : UH) : UO := match st with
  | .int x :: r => some (.inl (pc + 1, L, .int (-x) :: r, h))
  | _ => none
def v_ldiv (rs : List Nat) (pc : Nat) (L : List (Option Value)) (st : List Value) (h : UH) : UO := match st with
  | .long y :: .long x :: r => if y = 0 then none else some (.inl (pc + 1, L, .long (x / y) :: r, h))
  | _ => none
def v_lrem (rs : List Nat) (pc : Nat) (L : List (Option Value)) (st : List Value) (h : UH) : UO := match st with
  | .long y :: .long x :: r => if y = 0 then none else some (.inl (pc + 1, L, .long (x - x / y * y) :: r, h))
  | _ => none
def v_lshl (rs : List Nat) (pc : Nat) (L : List (Option Value)) (st : List Value) (h : UH) : UO := match st with
  | .int y :: .long x :: r => some (.inl (pc + 1, L, .long (x <<< (y.toInt64 &&& 63)) :: r, h))
  | _ => none
def v_lshr (rs : List Nat) (pc : Nat) (L : List (Option Value)) (st : List Value) (h : UH) : UO := match st with
  | .int y :: .long x :: r => some (.inl (pc + 1, L, .long (x >>> (y.toInt64 &&& 63)) :: r, h))
  | _ => none
def v_lcmp (rs : List Nat) (pc : Nat) (L : List (Option Value)) (st : List Value) (h : UH) : UO := match st with
  | .long y :: .long x :: r => some (.inl (pc + 1, L, .int (lg_cmp x y) :: r, h))
  | _ => none
def v_i2l (rs : List Nat) (pc : Nat) (L : List (Option Value)) (st : List Value) (h : UH) : UO := match st with
  | .int x :: r => some (.inl (pc + 1, L, .long x.toInt64 :: r, h))
  | _ => none
def v_l2i (rs : List Nat) (pc : Nat) (L : List (Option Value)) (st : List Value) (h : UH) : UO := match st with
  | .long x :: r => some (.inl (pc + 1, L, .int x.toInt32 :: r, h))
  | _ => none
def v_i2b (rs : List Nat) (pc : Nat) (L : List (Option Value)) (st : List Value) (h : UH) : UO := match st with
  | .int x :: r => some (.inl (pc + 1, L, .int x.toInt8.toInt32 :: r, h))
  | _ => none
def v_if_icmp (c : ClassFile.Cond) (rs : List Nat) (pc : Nat) (L : List (Option Value)) (st : List Value) (h : UH) : UO := match rs, st with
  | [t], .int y :: .int x :: r => u_if c x y t (pc + 3) L r h
  | _, _ => none
def v_ifCond (c : ClassFile.Cond) (rs : List Nat) (pc : Nat) (L : List (Option Value)) (st : List Value) (h : UH) : UO := match rs, st with
  | [t], .int x :: r => u_if c x 0 t (pc + 3) L r h
  | _, _ => none
def v_ifnull (rs : List Nat) (pc : Nat) (L : List (Option Value)) (st : List Value) (h : UH) : UO := match rs, st with
  | [t], .null :: r => some (.inl (t, L, r, h))
  | [_], .ref _ :: r => some (.inl (pc + 3, L, r, h))
  | _, _ => none
def v_ifnonnull (rs : List Nat) (pc : Nat) (L : List (Option Value)) (st : List Value) (h : UH) : UO := match rs, st with
  | [t], .ref _ :: r => some (.inl (t, L, r, h))
  | [_], .null :: r => some (.inl (pc + 3, L, r, h))
  | _, _ => none
def v_goto (rs : List Nat) (pc : Nat) (L : List (Option Value)) (st : List Value) (h : UH) : UO := match rs with
  | [t] => some (.inl (t, L, st, h))
  | _ => none
def v_tableswitch (lo : Int) (hi : Int) (rs : List Nat) (pc : Nat) (L : List (Option Value)) (st : List Value) (h : UH) : UO := match rs, st with
  | t :: ts, .int x :: r => if x.toInt < lo ∨ hi < x.toInt then some (.inl (t, L, r, h)) else match ts[(x.toInt - lo).toNat]? with
    | some u => some (.inl (u, L, r, h))
    | none => none
  | _, _ => none
def v_lookupswitch (d : Int) (ps : Array (Int × Int)) (rs : List Nat) (pc : Nat) (L : List (Option Value)) (st : List Value) (h : UH) : UO := match st with
  | .int x :: r => some (.inl (((pc : Int) + Op.lookupswitch.offset ps.toList d x.toInt).toNat, L, r, h))
  | _ => none
def v_getfield (rs : List Nat) (pc : Nat) (L : List (Option Value)) (st : List Value) (h : UH) : UO := match rs, st with
  | [ci, k], .ref a :: r => match u_gf ci k h a with
    | some v => some (.inl (pc + 3, L, v :: r, h))
    | none => none
  | _, _ => none
def v_putfield (rs : List Nat) (pc : Nat) (L : List (Option Value)) (st : List Value) (h : UH) : UO := match rs, st with
  | [ci, k, t], v :: .ref a :: r => match u_pf ci k t h a v with
    | some e => some (.inl (pc + 3, L, r, (va_up h.1 a e, h.2.1, h.2.2)))
    | none => none
  | _, _ => none
def v_arraylength (rs : List Nat) (pc : Nat) (L : List (Option Value)) (st : List Value) (h : UH) : UO := match st with
  | .ref a :: r => match u_len h a with
    | some n => some (.inl (pc + 1, L, .int (Int32.ofNat n) :: r, h))
    | none => none
  | _ => none
def v_newarray (rs : List Nat) (pc : Nat) (L : List (Option Value)) (st : List Value) (h : UH) : UO := match rs, st with
  | [t], .int n :: r => if n < 0 ∨ ¬ n.toNatClampNeg ≤ 1000000 then none else match u_zero t n.toNatClampNeg with
    | some e => some (.inl (pc + 2, L, .ref h.2.1 :: r, u_new h e n.toNatClampNeg))
    | none => none
  | _, _ => none
def v_anewarray (rs : List Nat) (pc : Nat) (L : List (Option Value)) (st : List Value) (h : UH) : UO := match rs, st with
  | [t], .int n :: r => if n < 0 ∨ ¬ n.toNatClampNeg ≤ 1000000 then none else some (.inl (pc + 3, L, .ref h.2.1 :: r, u_new h (.inl (t, n.toNatClampNeg, .inr (.inr (.inr (.inr u_none))))) n.toNatClampNeg))
  | _, _ => none
def v_new (rs : List Nat) (pc : Nat) (L : List (Option Value)) (st : List Value) (h : UH) : UO := match rs with
  | [ci] => some (.inl (pc + 3, L, .ref h.2.1 :: st, u_new h (.inr (ci, u_def ci)) (u_def ci).length))
  | _ => none
def v_invokespecial (rs : List Nat) (pc : Nat) (L : List (Option Value)) (st : List Value) (h : UH) : UO := match rs, st with
  | [], .ref _ :: r => if r.length ≤ 8 then some (.inl (pc + 3, L, r, h)) else none
  | _, _ => none
def v_invokestatic (rs : List Nat) (pc : Nat) (L : List (Option Value)) (st : List Value) (h : UH) : UO := match rs, st with
  | [], .int n :: .int dp :: .ref a :: .int sp :: .ref a0 :: r => match (if r.length ≤ 8 then u_cpy h a0 a sp dp n else none) with
    | some e => some (.inl (pc + 3, L, r, (va_up h.1 a e, h.2.1, h.2.2)))
    | none => none
  | _, _ => none
def v_ireturn (rs : List Nat) (pc : Nat) (L : List (Option Value)) (st : List Value) (h : UH) : UO := match rs, st with
  | [0], [.int x] => some (.inr (some (.int x), h))
  | [1], [.int x] => if x = 0 ∨ x = 1 then some (.inr (some (.int x), h)) else none
  | _, _ => none
def v_lreturn (rs : List Nat) (pc : Nat) (L : List (Option Value)) (st : List Value) (h : UH) : UO := match st with
  | [.long x] => some (.inr (some (.long x), h))
  | _ => none
def v_areturn (rs : List Nat) (pc : Nat) (L : List (Option Value)) (st : List Value) (h : UH) : UO := match st with
  | [.ref a] => some (.inr (some (.ref a), h))
  | [.null] => some (.inr (some .null, h))
  | _ => none
def v_return (rs : List Nat) (pc : Nat) (L : List (Option Value)) (st : List Value) (h : UH) : UO := match st with
  | [] => some (.inr (none, h))
  | _ => none
/-- one instruction that is no call -/
def ustep (i : UI) (x : UC) : UO := match i.1 with
  | .iconst n => some (.inl (x.1 + 1, x.2.1, .int (Int32.ofInt n) :: x.2.2.1, x.2.2.2))
  | .bipush n => some (.inl (x.1 + 2, x.2.1, .int (Int8.ofInt n).toInt32 :: x.2.2.1, x.2.2.2))
  | .sipush n => some (.inl (x.1 + 3, x.2.1, .int (Int16.ofInt n).toInt32 :: x.2.2.1, x.2.2.2))
  | .lconst n => some (.inl (x.1 + 1, x.2.1, .long (Int64.ofNat (n : Nat)) :: x.2.2.1, x.2.2.2))
  | .ldc _ => v_ldc i.2 x.1 x.2.1 x.2.2.1 x.2.2.2
  | .ldc_w _ => v_ldc_w i.2 x.1 x.2.1 x.2.2.1 x.2.2.2
  | .ldc2_w _ => v_ldc2_w i.2 x.1 x.2.1 x.2.2.1 x.2.2.2
  | .aconst_null => some (.inl (x.1 + 1, x.2.1, .null :: x.2.2.1, x.2.2.2))
  | .iload k => u_lod 0 k x.1 2 x.2.1 x.2.2.1 x.2.2.2
  | .iload_n k => u_lod 0 k x.1 1 x.2.1 x.2.2.1 x.2.2.2
  | .lload k => u_lod 1 k x.1 2 x.2.1 x.2.2.1 x.2.2.2
  | .lload_n k => u_lod 1 k x.1 1 x.2.1 x.2.2.1 x.2.2.2
  | .aload k => u_lod 2 k x.1 2 x.2.1 x.2.2.1 x.2.2.2
  | .aload_n k => u_lod 2 k x.1 1 x.2.1 x.2.2.1 x.2.2.2
  | .istore k => u_sto 0 k x.1 2 x.2.1 x.2.2.1 x.2.2.2
  | .istore_n k => u_sto 0 k x.1 1 x.2.1 x.2.2.1 x.2.2.2
  | .lstore k => u_sto 1 k x.1 2 x.2.1 x.2.2.1 x.2.2.2
  | .lstore_n k => u_sto 1 k x.1 1 x.2.1 x.2.2.1 x.2.2.2
  | .astore k => u_sto 2 k x.1 2 x.2.1 x.2.2.1 x.2.2.2
  | .astore_n k => u_sto 2 k x.1 1 x.2.1 x.2.2.1 x.2.2.2
  | .iinc k n => v_iinc k n i.2 x.1 x.2.1 x.2.2.1 x.2.2.2
  | .dup => v_dup i.2 x.1 x.2.1 x.2.2.1 x.2.2.2
  | .pop => v_pop i.2 x.1 x.2.1 x.2.2.1 x.2.2.2
  | .dup2 => v_dup2 i.2 x.1 x.2.1 x.2.2.1 x.2.2.2
  | .pop2 => v_pop2 i.2 x.1 x.2.1 x.2.2.1 x.2.2.2
  | .iadd => u_iop (· + ·) x.1 x.2.1 x.2.2.1 x.2.2.2
  | .isub => u_iop (· - ·) x.1 x.2.1 x.2.2.1 x.2.2.2
  | .imul => u_iop (· * ·) x.1 x.2.1 x.2.2.1 x.2.2.2
  | .iand => u_iop (· &&& ·) x.1 x.2.1 x.2.2.1 x.2.2.2
  | .ior => u_iop (· ||| ·) x.1 x.2.1 x.2.2.1 x.2.2.2
  | .ixor => u_iop (· ^^^ ·) x.1 x.2.1 x.2.2.1 x.2.2.2
  | .ishl => u_iop (fun z y => z <<< (y &&& 31)) x.1 x.2.1 x.2.2.1 x.2.2.2
  | .ishr => u_iop (fun z y => z >>> (y &&& 31)) x.1 x.2.1 x.2.2.1 x.2.2.2
  | .iushr => u_iop (fun z y => (z.toUInt32 >>> (y.toUInt32 &&& Int32.toUInt32 31)).toInt32) x.1 x.2.1 x.2.2.1 x.2.2.2
  | .idiv => v_idiv i.2 x.1 x.2.1 x.2.2.1 x.2.2.2
  | .irem => v_irem i.2 x.1 x.2.1 x.2.2.1 x.2.2.2
  | .ineg => v_ineg i.2 x.1 x.2.1 x.2.2.1 x.2.2.2
  | .ladd => u_lop (· + ·) x.1 x.2.1 x.2.2.1 x.2.2.2
  | .lsub => u_lop (· - ·) x.1 x.2.1 x.2.2.1 x.2.2.2
  | .lmul => u_lop (· * ·) x.1 x.2.1 x.2.2.1 x.2.2.2
  | .land => u_lop (· &&& ·) x.1 x.2.1 x.2.2.1 x.2.2.2
  | .lor => u_lop (· ||| ·) x.1 x.2.1 x.2.2.1 x.2.2.2
  | .ldiv => v_ldiv i.2 x.1 x.2.1 x.2.2.1 x.2.2.2
  | .lrem => v_lrem i.2 x.1 x.2.1 x.2.2.1 x.2.2.2
  | .lshl => v_lshl i.2 x.1 x.2.1 x.2.2.1 x.2.2.2
  | .lshr => v_lshr i.2 x.1 x.2.1 x.2.2.1 x.2.2.2
  | .lcmp => v_lcmp i.2 x.1 x.2.1 x.2.2.1 x.2.2.2
  | .i2l => v_i2l i.2 x.1 x.2.1 x.2.2.1 x.2.2.2
  | .l2i => v_l2i i.2 x.1 x.2.1 x.2.2.1 x.2.2.2
  | .i2b => v_i2b i.2 x.1 x.2.1 x.2.2.1 x.2.2.2
  | .if_icmp c _ => v_if_icmp c i.2 x.1 x.2.1 x.2.2.1 x.2.2.2
  | .ifCond c _ => v_ifCond c i.2 x.1 x.2.1 x.2.2.1 x.2.2.2
  | .ifnull _ => v_ifnull i.2 x.1 x.2.1 x.2.2.1 x.2.2.2
  | .ifnonnull _ => v_ifnonnull i.2 x.1 x.2.1 x.2.2.1 x.2.2.2
  | .goto _ => v_goto i.2 x.1 x.2.1 x.2.2.1 x.2.2.2
  | .tableswitch _ lo hi _ => v_tableswitch lo hi i.2 x.1 x.2.1 x.2.2.1 x.2.2.2
  | .lookupswitch d ps => v_lookupswitch d ps i.2 x.1 x.2.1 x.2.2.1 x.2.2.2
  | .getfield _ => v_getfield i.2 x.1 x.2.1 x.2.2.1 x.2.2.2
  | .putfield _ => v_putfield i.2 x.1 x.2.1 x.2.2.1 x.2.2.2
  | .iaload => u_al 1 x.1 x.2.1 x.2.2.1 x.2.2.2
  | .laload => u_al 2 x.1 x.2.1 x.2.2.1 x.2.2.2
  | .baload => u_al 0 x.1 x.2.1 x.2.2.1 x.2.2.2
  | .aaload => u_al 4 x.1 x.2.1 x.2.2.1 x.2.2.2
  | .iastore => u_as 1 x.1 x.2.1 x.2.2.1 x.2.2.2
  | .lastore => u_as 2 x.1 x.2.1 x.2.2.1 x.2.2.2
  | .bastore => u_as 0 x.1 x.2.1 x.2.2.1 x.2.2.2
  | .aastore => u_as 4 x.1 x.2.1 x.2.2.1 x.2.2.2
  | .arraylength => v_arraylength i.2 x.1 x.2.1 x.2.2.1 x.2.2.2
  | .newarray _ => v_newarray i.2 x.1 x.2.1 x.2.2.1 x.2.2.2
  | .anewarray _ => v_anewarray i.2 x.1 x.2.1 x.2.2.1 x.2.2.2
  | .new _ => v_new i.2 x.1 x.2.1 x.2.2.1 x.2.2.2
  | .invokespecial _ => v_invokespecial i.2 x.1 x.2.1 x.2.2.1 x.2.2.2
  | .invokestatic _ => v_invokestatic i.2 x.1 x.2.1 x.2.2.1 x.2.2.2
  | .ireturn => v_ireturn i.2 x.1 x.2.1 x.2.2.1 x.2.2.2
  | .lreturn => v_lreturn i.2 x.1 x.2.1 x.2.2.1 x.2.2.2
  | .areturn => v_areturn i.2 x.1 x.2.1 x.2.2.1 x.2.2.2
  | .return_ => v_return i.2 x.1 x.2.1 x.2.2.1 x.2.2.2
  | _ => none
/-! calls -/
def u_arg (n : Nat) (st : List Value) : List Value × List Value := ((st.take n).reverse, st.drop n)
/-- which method, with which arguments, what lies below -/
def ucall (i : UI) (st : List Value) (h : UH) : Option (Nat × List Value × List Value) := match i.1, i.2 with
  | .invokevirtual _, [mi, n, ci] => match u_arg (n + 1) st with
    | (.ref b :: as, r) => if as.length = n ∧ u_cls h b = ci ∧ r.length ≤ 4 then some (mi, .ref b :: as, r) else none
    | _ => none
  | .invokespecial _, [mi, n, ci] => match u_arg (n + 1) st with
    | (.ref b :: as, r) => if as.length = n ∧ u_cls h b = ci ∧ r.length ≤ 4 then some (mi, .ref b :: as, r) else none
    | _ => none
  | .invokestatic _, [mi, n] => match u_arg n st with
    | (as, r) => if as.length = n ∧ r.length ≤ 4 then some (mi, as, r) else none
  | _, _ => none
/-- a run from a place to a result: so many steps, locals may be forgotten ahead of each -/
def Ux (call : Nat → List Value → UH → UR → Prop) (code : Nat → Option UI) : Nat → UC → UR → Prop
  | 0, _, _ => False
  | n + 1, (pc, L, st, h), res => ∃ L' : List (Option Value), u_fg L L' ∧ ∃ i : UI, code pc = some i ∧
      ((∃ y : UC, ustep i (pc, L', st, h) = some (.inl y) ∧ Ux call code n y res) ∨ ustep i (pc, L', st, h) = some (.inr res) ∨
       ∃ (mi : Nat) (as r : List Value) (v : Option Value) (h' : UH), ucall i st h = some (mi, as, r) ∧ call mi as h (v, h') ∧ Ux call code n (pc + 3, L', v.toList ++ r, h') res)
def u_ent (nL : Nat) (as : List Value) : List (Option Value) := match as with
  | [] => List.replicate nL none
  | v :: r => if v.category = 2 then (some v :: none :: u_ent (nL - 2) r) else (some v :: u_ent (nL - 1) r)
