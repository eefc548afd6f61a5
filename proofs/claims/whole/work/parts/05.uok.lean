/-! ===== what the tables say of an instruction ===== -/
def ulen : Instr → Nat
  | .bipush _ => 2
  | .sipush _ => 3
  | .ldc _ => 2
  | .ldc_w _ => 3
  | .ldc2_w _ => 3
  | .iload _ => 2
  | .lload _ => 2
  | .aload _ => 2
  | .istore _ => 2
  | .lstore _ => 2
  | .astore _ => 2
  | .iinc _ _ => 3
  | .if_icmp _ _ => 3
  | .ifCond _ _ => 3
  | .ifnull _ => 3
  | .ifnonnull _ => 3
  | .goto _ => 3
  | .getfield _ => 3
  | .putfield _ => 3
  | .newarray _ => 2
  | .anewarray _ => 3
  | .new _ => 3
  | .invokespecial _ => 3
  | .invokestatic _ => 3
  | .invokevirtual _ => 3
  | _ => 1
def u_swi : Instr → Bool
  | .tableswitch _ _ _ _ => true
  | .lookupswitch _ _ => true
  | _ => false
def u_tc (t : FieldType) : Nat := match t with
  | .int => 0
  | .long => 1
  | .boolean => 2
  | .object _ => 3
  | .array _ => 3
  | _ => 9
def u_cn (t : Nat) : String := if t = 4 then "HeadCounts$Rule" else if t = 5 then "HeadCounts$State" else "HeadCounts$World"
def u_dec (bytes : ByteArray) (pc : Nat) (i : Instr) : Bool := match decode bytes pc with
  | .ok (j, n) => decide (j = i) && (decide (n = ulen i) || u_swi i)
  | .error _ => false
def ok_ldc (own : String) (x : Nat) (rs : List Nat) (pl : Nat) : Bool := match rs with
  | [v] => decide (lw_g pl = some (.constant own x (Int32.ofNat v)))
  | _ => false
def ok_ldc2 (own : String) (x : Nat) (rs : List Nat) (pl : Nat) : Bool := match rs with
  | [v] => decide (lw_g pl = some (.constantLong own x (Int64.ofNat v)))
  | _ => false
def ok_br (pc : Nat) (o : Int) (rs : List Nat) : Bool := match rs with
  | [t] => decide ((pc : Int) + o = (t : Int))
  | _ => false
def ok_tsw (pc : Nat) (d : Int) (offs : Array Int) (rs : List Nat) : Bool := match rs with
  | t :: ts => decide ((pc : Int) + d = (t : Int)) && decide (offs.toList.map (fun o => (pc : Int) + o) = ts.map (fun t : Nat => (t : Int)))
  | _ => false
def ok_lsw (pc : Nat) (d : Int) (ps : Array (Int × Int)) : Bool := (ps.toList.zip (ps.toList.drop 1)).all (fun (a, next) => a.1 < next.1) && decide (0 ≤ (pc : Int) + d) && ps.toList.all (fun q => decide (0 ≤ (pc : Int) + q.2))
def ok_fq (own : String) (x k pl : Nat) (q : vw_C) : Bool := decide (k < q.2.2) && decide (lw_g pl = some (.fieldLink own x (q.2.1 k).1 (q.2.1 k).2.1 (q.2.1 k).2.2.1))
def ok_get (own : String) (x : Nat) (rs : List Nat) (pl : Nat) : Bool := match rs with
  | [ci, k] => (vwCl[ci]?).any (ok_fq own x k pl)
  | _ => false
def ok_fin (own : String) (init : Bool) (k : Nat) (q : vw_C) : Bool := decide ((q.2.1 k).2.2.2 = false) || (init && decide ((q.2.1 k).1 = own))
def ok_put (own : String) (init : Bool) (x : Nat) (rs : List Nat) (pl : Nat) : Bool := match rs with
  | [ci, k, t] => decide (u_tc (u_tyF ci k) = t) && (vwCl[ci]?).any (fun q => ok_fq own x k pl q && ok_fin own init k q)
  | _ => false
def ok_nar (a : ArrayType) (rs : List Nat) : Bool := decide (a = .byte ∧ rs = [0] ∨ a = .int ∧ rs = [1] ∨ a = .long ∧ rs = [2] ∨ a = .boolean ∧ rs = [3])
def ok_anr (own : String) (x : Nat) (rs : List Nat) (pl : Nat) : Bool := match rs with
  | [t] => decide ((t = 4 ∨ t = 5 ∨ t = 6) ∧ lw_g pl = some (.classLink own x (u_cn t)))
  | _ => false
def ok_new (own : String) (x : Nat) (rs : List Nat) (pl : Nat) : Bool := match rs with
  | [ci] => (vwCl[ci]?).any (fun q => decide (lw_g pl = some (.classLink own x q.1)))
  | _ => false
def ok_spc (own : String) (x : Nat) (rs : List Nat) (pl : Nat) : Bool := match rs with
  | [] => decide (lw_g pl = some (.methodLink own x objectInit))
  | _ => true
def ok_sta (own : String) (x : Nat) (rs : List Nat) (pl : Nat) : Bool := match rs with
  | [] => decide (lw_g pl = some (.methodLink own x arraycopyName))
  | _ => true
def ok_irt (rt : Option FieldType) (rs : List Nat) : Bool := match rs with
  | [0] => decide (rt = some .int)
  | [1] => decide (rt = some .boolean)
  | _ => false
def ok_art (rt : Option FieldType) : Bool := match rt with
  | some (.object _) => true
  | some (.array _) => true
  | _ => false
def u_okb (own : String) (rt : Option FieldType) (init : Bool) (pc : Nat) (i : UI) (pl : Nat) : Bool := match i.1 with
  | .ldc x => ok_ldc own x i.2 pl
  | .ldc_w x => ok_ldc own x i.2 pl
  | .ldc2_w x => ok_ldc2 own x i.2 pl
  | .if_icmp _ o => ok_br pc o i.2
  | .ifCond _ o => ok_br pc o i.2
  | .ifnull o => ok_br pc o i.2
  | .ifnonnull o => ok_br pc o i.2
  | .goto o => ok_br pc o i.2
  | .tableswitch d _ _ offs => ok_tsw pc d offs i.2
  | .lookupswitch d ps => ok_lsw pc d ps
  | .getfield x => ok_get own x i.2 pl
  | .putfield x => ok_put own init x i.2 pl
  | .newarray a => ok_nar a i.2
  | .anewarray x => ok_anr own x i.2 pl
  | .new x => ok_new own x i.2 pl
  | .invokespecial x => ok_spc own x i.2 pl
  | .invokestatic x => ok_sta own x i.2 pl
  | .ireturn => ok_irt rt i.2
  | .lreturn => decide (rt = some .long)
  | .areturn => ok_art rt
  | .return_ => decide (rt = none)
  | _ => true
def u_ok (own : String) (bytes : ByteArray) (rt : Option FieldType) (init : Bool) (pc : Nat) (i : UI) (pl : Nat) : Bool := u_dec bytes pc i.1 && u_okb own rt init pc i pl
theorem u_ok2 {own : String} {bytes : ByteArray} {rt : Option FieldType} {init : Bool} {pc : Nat} {i : UI} {pl : Nat} (h : u_ok own bytes rt init pc i pl = true) : u_okb own rt init pc i pl = true := by
  unfold u_ok at h
  rw [Bool.and_eq_true] at h
  exact h.2
theorem u_okd {own : String} {bytes : ByteArray} {rt : Option FieldType} {init : Bool} {pc : Nat} {i : UI} {pl : Nat} (h : u_ok own bytes rt init pc i pl = true) (hs : u_swi i.1 = false) : decode bytes pc = .ok (i.1, ulen i.1) := by
  unfold u_ok at h
  rw [Bool.and_eq_true] at h
  have h1 := h.1
  unfold u_dec at h1
  split at h1
  · rename_i j n e
    simp [hs] at h1
    rw [e, h1.1, h1.2]
  · cases h1
theorem u_oks {own : String} {bytes : ByteArray} {rt : Option FieldType} {init : Bool} {pc : Nat} {i : UI} {pl : Nat} (h : u_ok own bytes rt init pc i pl = true) : ∃ n, decode bytes pc = .ok (i.1, n) := by
  unfold u_ok at h
  rw [Bool.and_eq_true] at h
  have h1 := h.1
  unfold u_dec at h1
  split at h1
  · rename_i j n e
    simp only [Bool.and_eq_true, decide_eq_true_eq] at h1
    exact ⟨n, by rw [e, h1.1]⟩
  · cases h1
