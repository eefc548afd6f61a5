/-! ===== any step; the run; methods by their runs ===== -/
def u_kind : Instr → Nat
  | .iconst _ => 0
  | .bipush _ => 0
  | .sipush _ => 0
  | .lconst _ => 0
  | .aconst_null => 0
  | .ldc _ => 0
  | .ldc_w _ => 0
  | .ldc2_w _ => 0
  | .iload _ => 0
  | .iload_n _ => 0
  | .lload _ => 0
  | .lload_n _ => 0
  | .aload _ => 0
  | .aload_n _ => 0
  | .dup => 0
  | .pop => 0
  | .dup2 => 0
  | .pop2 => 0
  | .iadd => 0
  | .isub => 0
  | .imul => 0
  | .iand => 0
  | .ior => 0
  | .ixor => 0
  | .ishl => 0
  | .ishr => 0
  | .iushr => 0
  | .ladd => 0
  | .lsub => 0
  | .lmul => 0
  | .land => 0
  | .lor => 0
  | .lshl => 0
  | .lshr => 0
  | .i2l => 0
  | .l2i => 0
  | .i2b => 0
  | .ineg => 0
  | .lcmp => 0
  | .idiv => 0
  | .irem => 0
  | .ldiv => 0
  | .lrem => 0
  | .if_icmp _ _ => 0
  | .ifCond _ _ => 0
  | .ifnull _ => 0
  | .ifnonnull _ => 0
  | .goto _ => 0
  | .tableswitch _ _ _ _ => 0
  | .lookupswitch _ _ => 0
  | .istore _ => 1
  | .istore_n _ => 1
  | .lstore _ => 1
  | .lstore_n _ => 1
  | .astore _ => 1
  | .astore_n _ => 1
  | .iinc _ _ => 1
  | _ => 2
theorem u_k0 {ins : Instr} {rs : List Nat} {pc : Nat} {L : List (Option Value)} {st : List Value} {h : UH} {y : UC} (hk : u_kind ins = 0) (hst : ustep (ins, rs) (pc, L, st, h) = some (.inl y)) : y.2.1 = L ∧ y.2.2.2 = h := by
  cases ins <;> first | (exfalso; revert hk; simp [u_kind]; done) | skip
  all_goals (simp only [ustep, v_ldc, v_ldc_w, v_ldc2_w, v_iinc, v_dup, v_pop, v_dup2, v_pop2, v_idiv, v_irem, v_ineg, v_ldiv, v_lrem, v_lshl, v_lshr, v_lcmp, v_i2l, v_l2i, v_i2b, v_if_icmp, v_ifCond, v_ifnull, v_ifnonnull, v_goto, v_tableswitch, v_lookupswitch, v_getfield, v_putfield, v_arraylength, v_newarray, v_anewarray, v_new, v_invokespecial, v_invokestatic, v_ireturn, v_lreturn, v_areturn, v_return, u_lod, u_sto, u_iop, u_lop, u_if, u_al, u_as] at hst)
  all_goals (repeat' (split at hst))
  all_goals first | (cases hst; done) | (cases hst; exact ⟨rfl, rfl⟩)

theorem u_k1 {ins : Instr} {rs : List Nat} {pc : Nat} {L : List (Option Value)} {st : List Value} {h : UH} {y : UC} (hk : u_kind ins = 1) (hst : ustep (ins, rs) (pc, L, st, h) = some (.inl y)) : y.2.2.2 = h := by
  cases ins <;> first | (exfalso; revert hk; simp [u_kind]; done) | skip
  all_goals (simp only [ustep, v_ldc, v_ldc_w, v_ldc2_w, v_iinc, v_dup, v_pop, v_dup2, v_pop2, v_idiv, v_irem, v_ineg, v_ldiv, v_lrem, v_lshl, v_lshr, v_lcmp, v_i2l, v_l2i, v_i2b, v_if_icmp, v_ifCond, v_ifnull, v_ifnonnull, v_goto, v_tableswitch, v_lookupswitch, v_getfield, v_putfield, v_arraylength, v_newarray, v_anewarray, v_new, v_invokespecial, v_invokestatic, v_ireturn, v_lreturn, v_areturn, v_return, u_lod, u_sto, u_iop, u_lop, u_if, u_al, u_as] at hst)
  all_goals (repeat' (split at hst))
  all_goals first | (cases hst; done) | (cases hst; rfl)
theorem u_stm {ins : Instr} {rs : List Nat} {pc : Nat} {L : List (Option Value)} {st : List Value} {h : UH} {y : UC} (hst : ustep (ins, rs) (pc, L, st, h) = some (.inl y)) : h.2.1 ≤ y.2.2.2.2.1 ∧ h.2.2 ≤ y.2.2.2.2.2 := by
  cases ins
  all_goals (simp only [ustep, reduceCtorEq, v_ldc, v_ldc_w, v_ldc2_w, v_iinc, v_dup, v_pop, v_dup2, v_pop2, v_idiv, v_irem, v_ineg, v_ldiv, v_lrem, v_lshl, v_lshr, v_lcmp, v_i2l, v_l2i, v_i2b, v_if_icmp, v_ifCond, v_ifnull, v_ifnonnull, v_goto, v_tableswitch, v_lookupswitch, v_getfield, v_putfield, v_arraylength, v_newarray, v_anewarray, v_new, v_invokespecial, v_invokestatic, v_ireturn, v_lreturn, v_areturn, v_return, u_lod, u_sto, u_iop, u_lop, u_if, u_al, u_as] at hst)
  all_goals (repeat' (split at hst))
  all_goals first | (cases hst; done) | (cases hst; exact ⟨Nat.le_refl _, Nat.le_refl _⟩) | (cases hst; exact ⟨Nat.le_add_right _ _, Nat.le_add_right _ _⟩)
theorem u_str {ins : Instr} {rs : List Nat} {pc : Nat} {L : List (Option Value)} {st : List Value} {h : UH} {r : UR} (hst : ustep (ins, rs) (pc, L, st, h) = some (.inr r)) : r.2 = h ∧ (ins = .ireturn ∨ ins = .lreturn ∨ ins = .areturn ∨ ins = .return_) := by
  cases ins
  all_goals (simp only [ustep, reduceCtorEq, v_ldc, v_ldc_w, v_ldc2_w, v_iinc, v_dup, v_pop, v_dup2, v_pop2, v_idiv, v_irem, v_ineg, v_ldiv, v_lrem, v_lshl, v_lshr, v_lcmp, v_i2l, v_l2i, v_i2b, v_if_icmp, v_ifCond, v_ifnull, v_ifnonnull, v_goto, v_tableswitch, v_lookupswitch, v_getfield, v_putfield, v_arraylength, v_newarray, v_anewarray, v_new, v_invokespecial, v_invokestatic, v_ireturn, v_lreturn, v_areturn, v_return, u_lod, u_sto, u_iop, u_lop, u_if, u_al, u_as] at hst)
  all_goals (repeat' (split at hst))
  all_goals first | (cases hst; done) | (cases hst; exact ⟨rfl, by simp⟩)

def u_kin2 : Instr → Nat
  | .getfield _ => 0
  | .iaload => 0
  | .laload => 0
  | .baload => 0
  | .aaload => 0
  | .arraylength => 0
  | .invokespecial _ => 0
  | .putfield _ => 1
  | .iastore => 1
  | .lastore => 1
  | .bastore => 1
  | .aastore => 1
  | .new _ => 1
  | .newarray _ => 1
  | .anewarray _ => 1
  | .invokestatic _ => 1
  | _ => 2
theorem u_kr {ins : Instr} {rs : List Nat} {pc : Nat} {L : List (Option Value)} {st : List Value} {h : UH} {y : UC} (hk : u_kin2 ins = 0) (hst : ustep (ins, rs) (pc, L, st, h) = some (.inl y)) : y.2.1 = L ∧ y.2.2.2 = h := by
  cases ins <;> first | (exfalso; revert hk; simp [u_kin2]; done) | skip
  all_goals (simp only [ustep, v_ldc, v_ldc_w, v_ldc2_w, v_iinc, v_dup, v_pop, v_dup2, v_pop2, v_idiv, v_irem, v_ineg, v_ldiv, v_lrem, v_lshl, v_lshr, v_lcmp, v_i2l, v_l2i, v_i2b, v_if_icmp, v_ifCond, v_ifnull, v_ifnonnull, v_goto, v_tableswitch, v_lookupswitch, v_getfield, v_putfield, v_arraylength, v_newarray, v_anewarray, v_new, v_invokespecial, v_invokestatic, v_ireturn, v_lreturn, v_areturn, v_return, u_lod, u_sto, u_iop, u_lop, u_if, u_al, u_as] at hst)
  all_goals (repeat' (split at hst))
  all_goals first | (cases hst; done) | (cases hst; exact ⟨rfl, rfl⟩)
theorem u_kw {ins : Instr} {rs : List Nat} {pc : Nat} {L : List (Option Value)} {st : List Value} {h : UH} {y : UC} (hk : u_kin2 ins = 1) (hst : ustep (ins, rs) (pc, L, st, h) = some (.inl y)) : y.2.1 = L := by
  cases ins <;> first | (exfalso; revert hk; simp [u_kin2]; done) | skip
  all_goals (simp only [ustep, v_ldc, v_ldc_w, v_ldc2_w, v_iinc, v_dup, v_pop, v_dup2, v_pop2, v_idiv, v_irem, v_ineg, v_ldiv, v_lrem, v_lshl, v_lshr, v_lcmp, v_i2l, v_l2i, v_i2b, v_if_icmp, v_ifCond, v_ifnull, v_ifnonnull, v_goto, v_tableswitch, v_lookupswitch, v_getfield, v_putfield, v_arraylength, v_newarray, v_anewarray, v_new, v_invokespecial, v_invokestatic, v_ireturn, v_lreturn, v_areturn, v_return, u_lod, u_sto, u_iop, u_lop, u_if, u_al, u_as] at hst)
  all_goals (repeat' (split at hst))
  all_goals first | (cases hst; done) | (cases hst; rfl)

section Sim4
variable {D : va_G} {cA : Nat → ClassId} {base b Ls : Nat} {xs : Nat → Int32} {p : Program} {l : Launch} {e : Env} {R : Room} {s : State} {m : MethodId} {args : Array Value} {below : List Frame} {meth : Method} {c : Code} {own : String} {bytes : ByteArray} {nL : Nat} {rt : Option FieldType} {init : Bool} {Q : State → Prop}
variable {h0 h : UH} {H : Heap} {locs : List Loc} {cells slots : Nat} {pc pl : Nat} {L : List (Option Value)} {ls : Array Slot} {st : List Value} {y : UC} {rs : List Nat}

set_option maxHeartbeats 4000000 in
theorem u_one {ins : Instr} (hF : u_Fix D cA base b Ls xs p R s m args meth c own bytes nL) (hin : init = true → meth.name = "<init>") (hI : u_Inv D cA base b Ls xs s h0 H locs cells slots h) (hLR : u_LR nL L ls) (hok : u_ok own bytes rt init pc (ins, rs) pl = true) (hst : ustep (ins, rs) (pc, L, st, h) = some (.inl y)) (hrm : y.2.2.2.2.1 ≤ h0.2.1 + R.cells ∧ y.2.2.2.2.2 ≤ h0.2.2 + R.slots)
    (K : ∀ (ls' : Array Slot) (H' : Heap) (locs' : List Loc) (cells' slots' : Nat), u_LR nL y.2.1 ls' → u_Inv D cA base b Ls xs s h0 H' locs' cells' slots' y.2.2.2 → W p l e R s m args below meth c H' locs' cells' slots' Q (F0 m y.1 ls' y.2.2.1)) : W p l e R s m args below meth c H locs cells slots Q (F0 m pc ls st) := by
  have K0 : u_kind ins = 0 → W p l e R s m args below meth c H locs cells slots Q (F0 m y.1 ls y.2.2.1) := fun hk => by
    obtain ⟨q1, q2⟩ := u_k0 hk hst
    exact K ls H locs cells slots (by rw [q1]; exact hLR) (by rw [q2]; exact hI)
  have K1 : u_kind ins = 1 → ∀ ls' : Array Slot, u_LR nL y.2.1 ls' → W p l e R s m args below meth c H locs cells slots Q (F0 m y.1 ls' y.2.2.1) := fun hk ls' q => K ls' H locs cells slots q (by rw [u_k1 hk hst]; exact hI)
  have KR : y.2.1 = L ∧ y.2.2.2 = h → W p l e R s m args below meth c H locs cells slots Q (F0 m y.1 ls y.2.2.1) := fun q => K ls H locs cells slots (by rw [q.1]; exact hLR) (by rw [q.2]; exact hI)
  have KW : y.2.1 = L → ∀ (H' : Heap) (locs' : List Loc), u_Inv D cA base b Ls xs s h0 H' locs' cells slots y.2.2.2 → W p l e R s m args below meth c H' locs' cells slots Q (F0 m y.1 ls y.2.2.1) := fun q H' locs' i => K ls H' locs' cells slots (by rw [q]; exact hLR) i
  have KN : y.2.1 = L → ∀ (H' : Heap), u_Inv D cA base b Ls xs s h0 H' locs (cells + (y.2.2.2.2.1 - h.2.1)) (slots + (y.2.2.2.2.2 - h.2.2)) y.2.2.2 → W p l e R s m args below meth c H' locs (cells + (y.2.2.2.2.1 - h.2.1)) (slots + (y.2.2.2.2.2 - h.2.2)) Q (F0 m y.1 ls y.2.2.1) := fun q H' i => K ls H' locs _ _ (by rw [q]; exact hLR) i
  cases ins
  case iconst => exact us_iconst hF hLR hok hst (K0 rfl)
  case bipush => exact us_bipush hF hLR hok hst (K0 rfl)
  case sipush => exact us_sipush hF hLR hok hst (K0 rfl)
  case lconst => exact us_lconst hF hLR hok hst (K0 rfl)
  case aconst_null => exact us_null hF hLR hok hst (K0 rfl)
  case ldc => exact us_ldc hF hLR hok hst (K0 rfl)
  case ldc_w => exact us_ldc_w hF hLR hok hst (K0 rfl)
  case ldc2_w => exact us_ldc2_w hF hLR hok hst (K0 rfl)
  case iload => exact us_iload hF hLR hok hst (K0 rfl)
  case iload_n => exact us_iload_n hF hLR hok hst (K0 rfl)
  case lload => exact us_lload hF hLR hok hst (K0 rfl)
  case lload_n => exact us_lload_n hF hLR hok hst (K0 rfl)
  case aload => exact us_aload hF hLR hok hst (K0 rfl)
  case aload_n => exact us_aload_n hF hLR hok hst (K0 rfl)
  case dup => exact us_dup hF hLR hok hst (K0 rfl)
  case pop => exact us_pop hF hLR hok hst (K0 rfl)
  case dup2 => exact us_dup2 hF hLR hok hst (K0 rfl)
  case pop2 => exact us_pop2 hF hLR hok hst (K0 rfl)
  case iadd => exact us_iadd hF hLR hok hst (K0 rfl)
  case isub => exact us_isub hF hLR hok hst (K0 rfl)
  case imul => exact us_imul hF hLR hok hst (K0 rfl)
  case iand => exact us_iand hF hLR hok hst (K0 rfl)
  case ior => exact us_ior hF hLR hok hst (K0 rfl)
  case ixor => exact us_ixor hF hLR hok hst (K0 rfl)
  case ishl => exact us_ishl hF hLR hok hst (K0 rfl)
  case ishr => exact us_ishr hF hLR hok hst (K0 rfl)
  case iushr => exact us_iushr hF hLR hok hst (K0 rfl)
  case ladd => exact us_ladd hF hLR hok hst (K0 rfl)
  case lsub => exact us_lsub hF hLR hok hst (K0 rfl)
  case lmul => exact us_lmul hF hLR hok hst (K0 rfl)
  case land => exact us_land hF hLR hok hst (K0 rfl)
  case lor => exact us_lor hF hLR hok hst (K0 rfl)
  case lshl => exact us_lshl hF hLR hok hst (K0 rfl)
  case lshr => exact us_lshr hF hLR hok hst (K0 rfl)
  case i2l => exact us_i2l hF hLR hok hst (K0 rfl)
  case l2i => exact us_l2i hF hLR hok hst (K0 rfl)
  case i2b => exact us_i2b hF hLR hok hst (K0 rfl)
  case ineg => exact us_ineg hF hLR hok hst (K0 rfl)
  case lcmp => exact us_lcmp hF hLR hok hst (K0 rfl)
  case idiv => exact us_idiv hF hLR hok hst (K0 rfl)
  case irem => exact us_irem hF hLR hok hst (K0 rfl)
  case ldiv => exact us_ldiv hF hLR hok hst (K0 rfl)
  case lrem => exact us_lrem hF hLR hok hst (K0 rfl)
  case if_icmp => exact us_if_icmp hF hLR hok hst (K0 rfl)
  case ifCond => exact us_ifCond hF hLR hok hst (K0 rfl)
  case ifnull => exact us_ifnull hF hLR hok hst (K0 rfl)
  case ifnonnull => exact us_ifnonnull hF hLR hok hst (K0 rfl)
  case goto => exact us_goto hF hLR hok hst (K0 rfl)
  case tableswitch => exact us_tableswitch hF hLR hok hst (K0 rfl)
  case lookupswitch => exact us_lookupswitch hF hLR hok hst (K0 rfl)
  case istore => exact us_istore hF hLR hok hst (K1 rfl)
  case istore_n => exact us_istore_n hF hLR hok hst (K1 rfl)
  case lstore => exact us_lstore hF hLR hok hst (K1 rfl)
  case lstore_n => exact us_lstore_n hF hLR hok hst (K1 rfl)
  case astore => exact us_astore hF hLR hok hst (K1 rfl)
  case astore_n => exact us_astore_n hF hLR hok hst (K1 rfl)
  case iinc => exact us_iinc hF hLR hok hst (K1 rfl)
  case getfield => exact (us_getfield hF hI hok hst (KR (u_kr rfl hst))).1
  case iaload => exact (us_iaload hF hI hok hst (KR (u_kr rfl hst))).1
  case laload => exact (us_laload hF hI hok hst (KR (u_kr rfl hst))).1
  case baload => exact (us_baload hF hI hok hst (KR (u_kr rfl hst))).1
  case aaload => exact (us_aaload hF hI hok hst (KR (u_kr rfl hst))).1
  case arraylength => exact (us_arraylength hF hI hok hst (KR (u_kr rfl hst))).1
  case putfield => exact (us_putfield hF hin hI hok hst (KW (u_kw rfl hst))).1
  case iastore => exact (us_iastore hF hI hok hst (KW (u_kw rfl hst))).1
  case lastore => exact (us_lastore hF hI hok hst (KW (u_kw rfl hst))).1
  case bastore => exact (us_bastore hF hI hok hst (KW (u_kw rfl hst))).1
  case aastore => exact (us_aastore hF hI hok hst (KW (u_kw rfl hst))).1
  case new => exact (us_new hF hI hok hst hrm (KN (u_kw rfl hst))).1
  case newarray => exact (us_newarray hF hI hok hst hrm (KN (u_kw rfl hst))).1
  case anewarray => exact (us_anewarray hF hI hok hst hrm (KN (u_kw rfl hst))).1
  case invokespecial => exact (us_objinit hF hI hLR hok hst (KR (u_kr rfl hst))).1
  case invokestatic => exact (us_arraycopy hF hI hLR hok hst (KW (u_kw rfl hst))).1
  all_goals (exfalso; revert hst; simp [ustep, v_ireturn, v_lreturn, v_areturn, v_return])
  all_goals (repeat' split) <;> simp

end Sim4
