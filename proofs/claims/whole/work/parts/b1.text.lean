/-! ===== the library's String.length and charAt, of the one constant text ===== -/
/-- the text q, its bytes t, two statics -/
def j_Tx (base q t : Nat) (U : State) (H : Heap) : Prop := va_Z "java/lang/String" "COMPACT_STRINGS" "Z" (.int 1) (fun q => base ≤ q) U H ∧ va_Zq "jdk/internal/util/Preconditions" "SIOOBE_FORMATTER" "Ljava/util/function/BiFunction;" (fun q => base ≤ q) U H ∧ vk_S 1 [119] [wB] (fun _ => q) (fun _ => t) (fun q => base ≤ q) U H
theorem j_Tx.kept {base q t : Nat} {U : State} {H H1 : Heap} (h : j_Tx base q t U H) (hq : ∀ a : Nat, a < H.size → ¬ base ≤ a → H1[a]? = H[a]?) : j_Tx base q t U H1 := by
  obtain ⟨h1, h2, h3⟩ := h
  exact ⟨h1.kept hq, h2.imp (fun z => z.kept hq) (fun ⟨t, z⟩ => ⟨t, z.kept hq⟩), h3.kept hq⟩
theorem j_Tx.alike {base q t : Nat} {u U : State} {H : Heap} (ha : u.vm.Alike U.vm) (h : j_Tx base q t u H) : j_Tx base q t U H := by
  obtain ⟨h1, h2, h3⟩ := h
  exact ⟨va_Z.moved ha h1, h2.imp (fun z => va_Z.moved ha z) (fun ⟨t, z⟩ => ⟨t, va_Z.moved ha z⟩), vk_S.moved ha h3⟩
theorem u_Tx.j {base : Nat} {U : State} {H : Heap} (h : u_Tx base U H) : ∃ q t, j_Tx base q t U H ∧ vk_R "HeadCounts$Reader" 61 wTx q U := by
  obtain ⟨-, h1, h2, adK, adV, ⟨h3, -⟩, h4⟩ := h
  refine ⟨adK 0, adV 0, ⟨h1, h2, fun i hi => ?_, fun i j hi hj _ => by omega⟩, h4⟩
  have : i = 0 := by omega
  subst this
  exact h3 0 hi
def j_rm (d : Nat) : Room := { frames := d, cells := 0, slots := 0, locals := 60 * d }
def j_Pc (base q t : Nat) (as : List Value) : Array Value → State → Prop := fun a U => a = as.toArray ∧ j_Tx base q t U U.heap
def j_Qc (v : Option Value) : Array Value → State → Outcome → State → Prop := fun _ st oc t => oc = .returned v ∧ t.heap = st.heap
def j_Met (l : Launch) (d : Nat) (M : UM) (as : List Value) (v : Option Value) (base q t : Nat) : Prop := Met l M.1 (m_ws M) (j_rm d) (j_Pc base q t as) (j_Qc v) 0 0 (fun _ => False)
theorem j_blind {base q t : Nat} {as : List Value} : FrameBlind (j_Pc base q t as) := by
  intro a U g mk h
  exact ⟨h.1, j_Tx.alike (u := U) (U := U.calling g mk a) (Vm.Alike.refl U.vm) h.2⟩
theorem j_ofW {l : Launch} {d base q t : Nat} {M : UM} {as : List Value} {v : Option Value} (h1 : plainName M.1.cls = true) (hl : (lg_sl as).length ≤ M.2.2.1) (K : ∀ (p : Program) (e : Env) (s : State) (m : MethodId) (args : Array Value) (below : List Frame) (meth : Method) (c : Code), p.tables.exec = Jvm.exec → c.code = M.2.1 → meth.sig.returnType = M.2.2.2.1 → c.maxLocals = M.2.2.1 → s.vm.findClass M.1.cls = some m.cls → (∀ w ∈ lw_T, w.before args s = true) → meth.locks = false → j_Tx base q t s s.heap → ∀ ls, lv_has ls M.2.2.1 (lv_args 0 as) → W p l e (j_rm d) s m args below meth c s.heap [] 0 0 (MQ below (j_Qc v) args s 0 0 (fun _ => False)) (F0 m 0 ls [])) : j_Met l d M as v base q t := by
  refine Met.ofW (cc := M.2.1) (maxL := M.2.2.1) (ret := M.2.2.2.1) h1 rfl ?_
  intro p e s m args below meth c s₁ B hml hv
  obtain ⟨rfl, hT⟩ := hv
  have hts := atoms_spec (ws := m_ws M) B.pre
  have hl2 := lv_entry as hl
  rw [lg_entry_eq]
  generalize (lg_sl as ++ List.replicate (M.2.2.1 - (lg_sl as).length) Slot.unset).toArray = ls at hl2 ⊢
  exact K p e s m as.toArray below meth c B.exec B.bytes B.returns hml (findClass_of_methodNamed B.named) (fun w hw => hts w (List.mem_cons_of_mem _ hw)) B.notSynchronized hT ls hl2
theorem j_good {M : UM} {l : List Cond} (hc : Cond.code M.1 M.2.1 M.2.2.1 M.2.2.2.1 ∈ lw_T) (hw : ∀ w ∈ l, w ∈ lw_T) : GoodIn lw_T (l ++ m_ws M) := by
  intro w h
  rcases List.mem_append.mp h with z | z
  · exact ⟨hw w z, good_of_word (List.mem_filter.mp (hw w z)).2⟩
  · exact m_good hc w z
section J
variable {base q t : Nat} {p : Program} {l : Launch} {e : Env} {R : Room} {s : State} {m : MethodId} {args : Array Value} {below : List Frame} {meth : Method} {c : Code} {cc : ByteArray} {own : String} {nL : Nat} {H : Heap} {locs : List Loc} {cells slots pc : Nat} {ls : Array Slot} {Q : State → Prop}
theorem j_back {st0 rest : List Value} {v : Option Value} {a : Array Value} (hr : va_Run p l e R s m args below meth c H locs cells slots 0 0 (F0 m pc ls st0) rest (j_Qc v a) (fun _ => False)) (K : W p l e R s m args below meth c H locs cells slots Q (F0 m (pc + 3) ls (v.toList ++ rest))) : W p l e R s m args below meth c H locs cells slots Q (F0 m pc ls st0) := by
  intro T hT X
  obtain ⟨v', st₀, t, T', Lc, g0, X', hL, f1, f2, ⟨q1, q2⟩, go⟩ := hr T hT X
  have hv : v' = v := by cases q1; rfl
  subst hv
  have hLc : Lc = [] := by
    cases Lc with
    | nil => rfl
    | cons x r => exact (hL x List.mem_cons_self).elim
  subst hLc
  rw [List.append_nil] at X'
  obtain ⟨t2, a1, b1⟩ := K T' (f1.trans (q2.trans g0)) X'
  exact ⟨t2, go t2 a1, b1⟩
theorem j_callV {M : UM} {d x n b : Nat} {as r st0 st1 : List Value} {v : Option Value} (S : CallFix p m c cc nL s args lw_T own) (hU : ∀ U : State, U.heap = H → s.WarmedH U.vm → j_Tx base q t U U.heap) (hM : j_Met l d M (.ref b :: as) v base q t) (hc : Cond.code M.1 M.2.1 M.2.2.1 M.2.2.2.1 ∈ lw_T) (hw : ∀ w ∈ [Cond.methodLink own x M.1, .instanceMethod M.1, .selects M.1.cls M.1 M.1, .initialized M.1.cls], w ∈ lw_T) (hd : M.1.cls ≠ "java/lang/invoke/MethodHandle" ∧ M.1.cls ≠ "java/lang/invoke/VarHandle" ∧ (parseMethodDescriptor M.1.desc).map (fun d => d.parameters.length) = some n) (hn : as.length = n) (hm : M.2.2.1 ≤ 40) (hd1 : d + 1 ≤ R.frames) (hd2 : 60 * (d + 1) ≤ R.locals) (hrecv : ∃ cell : Cell, H[b]? = some cell ∧ cell.vm.isStatics = false ∧ s.vm.findClass M.1.cls = some cell.cls) (hsize : ls.size = nL) (hcat : (r.map fun v => v.category).sum ≤ 8) (hdec : decode cc pc = .ok (.invokevirtual x, 3)) (hf : cells ≤ R.cells ∧ slots ≤ R.slots) (h0 : as.reverse ++ .ref b :: r = st0) (h1 : v.toList ++ r = st1) (K : W p l e R s m args below meth c H locs cells slots Q (F0 m (pc + 3) ls st1)) : W p l e R s m args below meth c H locs cells slots Q (F0 m pc ls st0) := by
  subst h0; subst h1
  refine j_back (va_runV (As := as) (rest := r) S hM (cwV n S.2.2.2.2 (j_good hc hw) rfl rfl rfl ⟨rfl, hd⟩ ⟨hd1, ?_⟩) ⟨j_blind, hrecv, fun U a b => ⟨rfl, hU U a b⟩⟩ rfl hn hsize rfl (lv_room hcat) hdec hf) K
  show 8 + (M.2.2.1 + 11) + 60 * d ≤ R.locals
  omega
theorem j_callS {M : UM} {d x n : Nat} {as r st0 st1 : List Value} {v : Option Value} (S : CallFix p m c cc nL s args lw_T own) (hU : ∀ U : State, U.heap = H → s.WarmedH U.vm → j_Tx base q t U U.heap) (hM : j_Met l d M as v base q t) (hc : Cond.code M.1 M.2.1 M.2.2.1 M.2.2.2.1 ∈ lw_T) (hl : Cond.methodLink own x M.1 ∈ lw_T) (hst : Cond.static M.1 ∈ lw_T) (hi : Cond.initialized M.1.cls ∈ lw_T) (hd : M.1.cls ≠ "java/lang/invoke/MethodHandle" ∧ M.1.cls ≠ "java/lang/invoke/VarHandle" ∧ (parseMethodDescriptor M.1.desc).map (fun d => d.parameters.length) = some n) (hn : as.length = n) (hm : M.2.2.1 ≤ 40) (hd1 : d + 1 ≤ R.frames) (hd2 : 60 * (d + 1) ≤ R.locals) (hsize : ls.size = nL) (hcat : (r.map fun v => v.category).sum ≤ 8) (hdec : decode cc pc = .ok (.invokestatic x, 3)) (hf : cells ≤ R.cells ∧ slots ≤ R.slots) (h0 : as.reverse ++ r = st0) (h1 : v.toList ++ r = st1) (K : W p l e R s m args below meth c H locs cells slots Q (F0 m (pc + 3) ls st1)) : W p l e R s m args below meth c H locs cells slots Q (F0 m pc ls st0) := by
  subst h0; subst h1
  have hts := S.2.2.2.2
  refine j_back (va_runS (As := as) (rest := r) S hM ⟨callB_of n hts (m_good hc) rfl rfl rfl (hts _ hi) (hts _ hl) hd ⟨hd1, ?_⟩, hts _ hst⟩ ⟨j_blind, fun U a b => ⟨rfl, hU U a b⟩⟩ rfl hn hsize rfl (lv_room hcat) hdec hf) K
  show 8 + (M.2.2.1 + 11) + 60 * d ≤ R.locals
  omega
end J
/-! the methods -/
abbrev jm_pre : UM := (⟨"jdk/internal/util/Preconditions", "checkIndex", "(IILjava/util/function/BiFunction;)I"⟩, prog_23_method_11_code, 3, some .int, 1, 99, 3)
abbrev jm_chk : UM := (⟨"java/lang/String", "checkIndex", "(II)V"⟩, prog_18_method_155_code, 2, none, 1, 99, 2)
abbrev jm_lch : UM := (⟨"java/lang/StringLatin1", "charAt", "([BI)C"⟩, prog_19_method_2_code, 2, some .char, 1, 99, 2)
abbrev jm_lat : UM := (⟨"java/lang/String", "isLatin1", "()Z"⟩, prog_18_method_154_code, 1, some .boolean, 0, 99, 0)
abbrev jm_chr : UM := (⟨"java/lang/String", "charAt", "(I)C"⟩, prog_18_method_56_code, 2, some .char, 0, 99, 1)
abbrev jm_cod : UM := (⟨"java/lang/String", "coder", "()B"⟩, prog_18_method_152_code, 1, some .byte, 0, 99, 0)
abbrev jm_len : UM := (⟨"java/lang/String", "length", "()I"⟩, prog_18_method_54_code, 1, some .int, 0, 99, 0)
theorem jd_pre0 : decode prog_23_method_11_code 0 = .ok (.iload_n 0, 1) := by decide +kernel
theorem jd_pre1 : decode prog_23_method_11_code 1 = .ok (.ifCond .lt 8, 3) := by decide +kernel
theorem jd_pre4 : decode prog_23_method_11_code 4 = .ok (.iload_n 0, 1) := by decide +kernel
theorem jd_pre5 : decode prog_23_method_11_code 5 = .ok (.iload_n 1, 1) := by decide +kernel
theorem jd_pre6 : decode prog_23_method_11_code 6 = .ok (.if_icmp .lt 10, 3) := by decide +kernel
theorem jd_pre16 : decode prog_23_method_11_code 16 = .ok (.iload_n 0, 1) := by decide +kernel
theorem jd_pre17 : decode prog_23_method_11_code 17 = .ok (.ireturn, 1) := by decide +kernel
theorem jd_chk0 : decode prog_18_method_155_code 0 = .ok (.iload_n 0, 1) := by decide +kernel
theorem jd_chk1 : decode prog_18_method_155_code 1 = .ok (.iload_n 1, 1) := by decide +kernel
theorem jd_chk2 : decode prog_18_method_155_code 2 = .ok (.getstatic 1053, 3) := by decide +kernel
theorem jd_chk5 : decode prog_18_method_155_code 5 = .ok (.invokestatic 1059, 3) := by decide +kernel
theorem jd_chk8 : decode prog_18_method_155_code 8 = .ok (.pop, 1) := by decide +kernel
theorem jd_chk9 : decode prog_18_method_155_code 9 = .ok (.return_, 1) := by decide +kernel
theorem jd_lch0 : decode prog_19_method_2_code 0 = .ok (.iload_n 1, 1) := by decide +kernel
theorem jd_lch1 : decode prog_19_method_2_code 1 = .ok (.aload_n 0, 1) := by decide +kernel
theorem jd_lch2 : decode prog_19_method_2_code 2 = .ok (.arraylength, 1) := by decide +kernel
theorem jd_lch3 : decode prog_19_method_2_code 3 = .ok (.invokestatic 9, 3) := by decide +kernel
theorem jd_lch6 : decode prog_19_method_2_code 6 = .ok (.aload_n 0, 1) := by decide +kernel
theorem jd_lch7 : decode prog_19_method_2_code 7 = .ok (.iload_n 1, 1) := by decide +kernel
theorem jd_lch8 : decode prog_19_method_2_code 8 = .ok (.baload, 1) := by decide +kernel
theorem jd_lch9 : decode prog_19_method_2_code 9 = .ok (.sipush 255, 3) := by decide +kernel
theorem jd_lch12 : decode prog_19_method_2_code 12 = .ok (.iand, 1) := by decide +kernel
theorem jd_lch13 : decode prog_19_method_2_code 13 = .ok (.i2c, 1) := by decide +kernel
theorem jd_lch14 : decode prog_19_method_2_code 14 = .ok (.ireturn, 1) := by decide +kernel
theorem jd_lat0 : decode prog_18_method_154_code 0 = .ok (.getstatic 38, 3) := by decide +kernel
theorem jd_lat3 : decode prog_18_method_154_code 3 = .ok (.ifCond .eq 14, 3) := by decide +kernel
theorem jd_lat6 : decode prog_18_method_154_code 6 = .ok (.aload_n 0, 1) := by decide +kernel
theorem jd_lat7 : decode prog_18_method_154_code 7 = .ok (.getfield 15, 3) := by decide +kernel
theorem jd_lat10 : decode prog_18_method_154_code 10 = .ok (.ifCond .ne 7, 3) := by decide +kernel
theorem jd_lat13 : decode prog_18_method_154_code 13 = .ok (.iconst 1, 1) := by decide +kernel
theorem jd_lat14 : decode prog_18_method_154_code 14 = .ok (.goto 4, 3) := by decide +kernel
theorem jd_lat18 : decode prog_18_method_154_code 18 = .ok (.ireturn, 1) := by decide +kernel
theorem jd_chr0 : decode prog_18_method_56_code 0 = .ok (.aload_n 0, 1) := by decide +kernel
theorem jd_chr1 : decode prog_18_method_56_code 1 = .ok (.invokevirtual 492, 3) := by decide +kernel
theorem jd_chr4 : decode prog_18_method_56_code 4 = .ok (.ifCond .eq 12, 3) := by decide +kernel
theorem jd_chr7 : decode prog_18_method_56_code 7 = .ok (.aload_n 0, 1) := by decide +kernel
theorem jd_chr8 : decode prog_18_method_56_code 8 = .ok (.getfield 9, 3) := by decide +kernel
theorem jd_chr11 : decode prog_18_method_56_code 11 = .ok (.iload_n 1, 1) := by decide +kernel
theorem jd_chr12 : decode prog_18_method_56_code 12 = .ok (.invokestatic 495, 3) := by decide +kernel
theorem jd_chr15 : decode prog_18_method_56_code 15 = .ok (.ireturn, 1) := by decide +kernel
theorem jd_cod0 : decode prog_18_method_152_code 0 = .ok (.getstatic 38, 3) := by decide +kernel
theorem jd_cod3 : decode prog_18_method_152_code 3 = .ok (.ifCond .eq 10, 3) := by decide +kernel
theorem jd_cod6 : decode prog_18_method_152_code 6 = .ok (.aload_n 0, 1) := by decide +kernel
theorem jd_cod7 : decode prog_18_method_152_code 7 = .ok (.getfield 15, 3) := by decide +kernel
theorem jd_cod10 : decode prog_18_method_152_code 10 = .ok (.goto 4, 3) := by decide +kernel
theorem jd_cod14 : decode prog_18_method_152_code 14 = .ok (.ireturn, 1) := by decide +kernel
theorem jd_len0 : decode prog_18_method_54_code 0 = .ok (.aload_n 0, 1) := by decide +kernel
theorem jd_len1 : decode prog_18_method_54_code 1 = .ok (.getfield 9, 3) := by decide +kernel
theorem jd_len4 : decode prog_18_method_54_code 4 = .ok (.arraylength, 1) := by decide +kernel
theorem jd_len5 : decode prog_18_method_54_code 5 = .ok (.aload_n 0, 1) := by decide +kernel
theorem jd_len6 : decode prog_18_method_54_code 6 = .ok (.invokevirtual 335, 3) := by decide +kernel
theorem jd_len9 : decode prog_18_method_54_code 9 = .ok (.ishr, 1) := by decide +kernel
theorem jd_len10 : decode prog_18_method_54_code 10 = .ok (.ireturn, 1) := by decide +kernel
section Jm
variable {l : Launch} {base q t : Nat}
theorem j_pre {d k : Nat} (hk : k < 119) {f : Value} (hf : f = .null ∨ ∃ t, f = .ref t) : j_Met l (d + 1) jm_pre [.int (nI k), .int 119, f] (some (.int (nI k))) base q t := by
  have h0 : ¬ nI k < 0 := nI_pos (by omega)
  have h1 : nI k < (119 : Int32) := show nI k < nI 119 from nI_lt hk (by decide)
  refine j_ofW (by decide +kernel) (by rcases hf with rfl | ⟨t, rfl⟩ <;> exact Nat.le_of_ble_eq_true rfl) ?_
  intro p e s m args below meth c hx hb hr hml hown hts hlk hT ls hl
  have hb : c.code = prog_23_method_11_code := hb
  have hl : lv_has ls 3 [(0, .int (nI k)), (1, .int 119), (2, f)] := hl
  refine lv_iload_n hx hb jd_pre0 rfl (lv_at hl 0 rfl) ?_
  refine lv_if_lt (tgt := 9) hx hb jd_pre1 (by decide) (fun z => absurd z h0) (fun _ => ?_)
  refine lv_iload_n hx hb jd_pre4 rfl (lv_at hl 0 rfl) ?_
  refine lv_iload_n hx hb jd_pre5 rfl (lv_at hl 1 rfl) ?_
  refine lv_icmp_lt (tgt := 16) hx hb jd_pre6 (by decide) (fun _ => ?_) (fun z => absurd h1 z)
  refine lv_iload_n hx hb jd_pre16 rfl (lv_at hl 0 rfl) ?_
  exact W.iret hx hb hr (fun t ht _ => ⟨rfl, ht⟩) (fun _ h => by cases h) jd_pre17 hlk
theorem j_chk {d k : Nat} (hk : k < 119) : j_Met l (d + 2) jm_chk [.int (nI k), .int 119] none base q t := by
  refine j_ofW (by decide +kernel) (Nat.le_of_ble_eq_true rfl) ?_
  intro p e s m args below meth c hx hb hr hml hown hts hlk hT ls hl
  have hb : c.code = prog_18_method_155_code := hb
  have hl : lv_has ls 2 [(0, .int (nI k)), (1, .int 119)] := hl
  obtain ⟨f, hf, hz⟩ : ∃ f : Value, (f = .null ∨ ∃ t, f = .ref t) ∧ va_Z "jdk/internal/util/Preconditions" "SIOOBE_FORMATTER" "Ljava/util/function/BiFunction;" f (fun q => base ≤ q) s s.heap := by
    rcases hT.2.1 with z | ⟨t, z⟩
    · exact ⟨_, Or.inl rfl, z⟩
    · exact ⟨_, Or.inr ⟨t, rfl⟩, z⟩
  refine lv_iload_n hx hb jd_chk0 rfl (lv_at hl 0 rfl) ?_
  refine lv_iload_n hx hb jd_chk1 rfl (lv_at hl 1 rfl) ?_
  refine va_gets hx hb hz va_S.rf hown (hts _ (u_tm (pl := 1106) rfl)) (fun _ h => h) jd_chk2 ?_
  refine j_callS (M := jm_pre) (d := d + 1) (n := 3) (as := [.int (nI k), .int 119, f]) (r := []) (v := some (.int (nI k))) (st1 := [.int (nI k)]) ⟨hx, hb, hml, hown, hts⟩ (fun U hU hW => by rw [hU]; exact hT.alike hW.alike) (j_pre hk hf) (u_tm (pl := 1110) rfl) (u_tm (pl := 1108) rfl) (u_tm (pl := 1109) rfl) (u_tm (pl := 273) rfl) ⟨by decide, by decide, by decide +kernel⟩ rfl (by decide) (Nat.le_refl _) (Nat.le_refl _) hl.1 (by decide) jd_chk5 ⟨Nat.le_refl _, Nat.le_refl _⟩ rfl rfl ?_
  refine lv_pop hx hb jd_chk8 rfl ?_
  exact W.vret hx hb hr (fun t ht _ => ⟨rfl, ht⟩) (fun _ h => by cases h) jd_chk9 hlk
theorem wB_c : ∀ k, k < 119 → ((wB.getD k 0 &&& 255).toUInt32 % 65536).toInt32 = wB.getD k 0 ∧ narrow .char (.int (wB.getD k 0)) = .int (wB.getD k 0) := by decide +kernel
theorem j_lch {d k : Nat} (hk : k < 119) : j_Met l (d + 3) jm_lch [.ref t, .int (nI k)] (some (.int (wB.getD k 0))) base q t := by
  refine j_ofW (by decide +kernel) (Nat.le_of_ble_eq_true rfl) ?_
  intro p e s m args below meth c hx hb hr hml hown hts hlk hT ls hl
  have hb : c.code = prog_19_method_2_code := hb
  have hl : lv_has ls 2 [(0, .ref t), (1, .int (nI k))] := hl
  obtain ⟨h1, h2, h3, h4⟩ := hT.2.2.1 0 (by decide)
  refine lv_iload_n hx hb jd_lch0 rfl (lv_at hl 1 rfl) ?_
  refine lv_aload_n hx hb jd_lch1 rfl (lv_at hl 0 rfl) ?_
  refine va_tlen (v := 119) hx hb h4 va_S.rf rfl jd_lch2 ?_
  refine j_callS (M := jm_chk) (d := d + 2) (n := 2) (as := [.int (nI k), .int 119]) (r := []) (v := none) (st1 := []) ⟨hx, hb, hml, hown, hts⟩ (fun U hU hW => by rw [hU]; exact hT.alike hW.alike) (j_chk hk) (u_tm (pl := 1105) rfl) (u_tm (pl := 1103) rfl) (u_tm (pl := 1104) rfl) (u_tm (pl := 271) rfl) ⟨by decide, by decide, by decide +kernel⟩ rfl (by decide) (Nat.le_refl _) (Nat.le_refl _) hl.1 (by decide) jd_lch3 ⟨Nat.le_refl _, Nat.le_refl _⟩ rfl rfl ?_
  refine lv_aload_n hx hb jd_lch6 rfl (lv_at hl 0 rfl) ?_
  refine lv_iload_n hx hb jd_lch7 rfl (lv_at hl 1 rfl) ?_
  refine va_tb (v := .int (wB.getD k 0)) hx hb h4 va_S.rf (vp_in_nI hk (by decide)) (by rw [nI_clamp (by omega)]; rfl) jd_lch8 ?_
  refine lv_sipush (v := 255) hx hb jd_lch9 (by decide) ?_
  refine lv_iand hx hb jd_lch12 ?_
  refine lv_i2c hx hb jd_lch13 (wB_c k hk).1 ?_
  exact W.zret hx hb hr (wB_c k hk).2 (fun t ht _ => ⟨rfl, ht⟩) (fun _ h => by cases h) jd_lch14 hlk
theorem j_lat {d : Nat} : j_Met l (d + 1) jm_lat [.ref q] (some (.int 1)) base q t := by
  refine j_ofW (by decide +kernel) (Nat.le_of_ble_eq_true rfl) ?_
  intro p e s m args below meth c hx hb hr hml hown hts hlk hT ls hl
  have hb : c.code = prog_18_method_154_code := hb
  have hl : lv_has ls 1 [(0, .ref q)] := hl
  obtain ⟨h1, h2, h3, h4⟩ := hT.2.2.1 0 (by decide)
  refine va_gets hx hb hT.1 va_S.rf hown (hts _ (u_tm (pl := 1090) rfl)) (fun _ h => h) jd_lat0 ?_
  refine lv_if_eq (tgt := 17) hx hb jd_lat3 (by decide) (fun z => absurd z (by decide)) (fun _ => ?_)
  refine lv_aload_n hx hb jd_lat6 rfl (lv_at hl 0 rfl) ?_
  refine vk_getf hx hb h2 va_S.rf hown (hts _ (u_tm (pl := 3027) rfl)) (fun _ h => h) jd_lat7 ?_
  refine lv_if_ne (tgt := 17) hx hb jd_lat10 (by decide) (fun z => absurd rfl z) (fun _ => ?_)
  refine lv_iconst (v := 1) hx hb jd_lat13 (by decide) ?_
  refine lv_goto (tgt := 18) hx hb jd_lat14 (by decide) ?_
  exact W.zret hx hb hr rfl (fun t ht _ => ⟨rfl, ht⟩) (fun _ h => by cases h) jd_lat18 hlk
theorem j_cod {d : Nat} : j_Met l (d + 1) jm_cod [.ref q] (some (.int 0)) base q t := by
  refine j_ofW (by decide +kernel) (Nat.le_of_ble_eq_true rfl) ?_
  intro p e s m args below meth c hx hb hr hml hown hts hlk hT ls hl
  have hb : c.code = prog_18_method_152_code := hb
  have hl : lv_has ls 1 [(0, .ref q)] := hl
  obtain ⟨h1, h2, h3, h4⟩ := hT.2.2.1 0 (by decide)
  refine va_gets hx hb hT.1 va_S.rf hown (hts _ (u_tm (pl := 1090) rfl)) (fun _ h => h) jd_cod0 ?_
  refine lv_if_eq (tgt := 13) hx hb jd_cod3 (by decide) (fun z => absurd z (by decide)) (fun _ => ?_)
  refine lv_aload_n hx hb jd_cod6 rfl (lv_at hl 0 rfl) ?_
  refine vk_getf hx hb h2 va_S.rf hown (hts _ (u_tm (pl := 3027) rfl)) (fun _ h => h) jd_cod7 ?_
  refine lv_goto (tgt := 14) hx hb jd_cod10 (by decide) ?_
  exact W.zret hx hb hr rfl (fun t ht _ => ⟨rfl, ht⟩) (fun _ h => by cases h) jd_cod14 hlk
theorem j_len {d : Nat} : j_Met l (d + 2) jm_len [.ref q] (some (.int 119)) base q t := by
  refine j_ofW (by decide +kernel) (Nat.le_of_ble_eq_true rfl) ?_
  intro p e s m args below meth c hx hb hr hml hown hts hlk hT ls hl
  have hb : c.code = prog_18_method_54_code := hb
  have hl : lv_has ls 1 [(0, .ref q)] := hl
  obtain ⟨h1, h2, h3, h4⟩ := hT.2.2.1 0 (by decide)
  refine lv_aload_n hx hb jd_len0 rfl (lv_at hl 0 rfl) ?_
  refine vk_getf hx hb h3 va_S.rf hown (hts _ (u_tm (pl := 3026) rfl)) (fun _ h => h) jd_len1 ?_
  refine va_tlen (v := 119) hx hb h4 va_S.rf rfl jd_len4 ?_
  refine lv_aload_n hx hb jd_len5 rfl (lv_at hl 0 rfl) ?_
  refine j_callV (M := jm_cod) (d := d + 1) (n := 0) (as := []) (r := [.int 119]) (v := some (.int 0)) (st1 := [.int 0, .int 119]) ⟨hx, hb, hml, hown, hts⟩ (fun U hU hW => by rw [hU]; exact hT.alike hW.alike) j_cod (u_tm (pl := 1089) rfl) (List.forall_mem_cons.mpr ⟨u_tm (pl := 1070) rfl, List.forall_mem_cons.mpr ⟨u_tm (pl := 1071) rfl, List.forall_mem_cons.mpr ⟨u_tm (pl := 1088) rfl, List.forall_mem_cons.mpr ⟨u_tm (pl := 271) rfl, fun _ h => absurd h List.not_mem_nil⟩⟩⟩⟩) ⟨by decide, by decide, by decide +kernel⟩ rfl (by decide) (Nat.le_refl _) (Nat.le_refl _) (vk_recv hT.2.2 (i := 0) (by decide) va_S.rf) hl.1 (by decide) jd_len6 ⟨Nat.le_refl _, Nat.le_refl _⟩ rfl rfl ?_
  refine lv_ishr hx hb jd_len9 ?_
  exact W.iret hx hb hr (fun t ht _ => ⟨congrArg (fun z => Outcome.returned (some (Value.int z))) (by decide), ht⟩) (fun _ h => by cases h) jd_len10 hlk
theorem j_chr {d k : Nat} (hk : k < 119) : j_Met l (d + 4) jm_chr [.ref q, .int (nI k)] (some (.int (wB.getD k 0))) base q t := by
  refine j_ofW (by decide +kernel) (Nat.le_of_ble_eq_true rfl) ?_
  intro p e s m args below meth c hx hb hr hml hown hts hlk hT ls hl
  have hb : c.code = prog_18_method_56_code := hb
  have hl : lv_has ls 2 [(0, .ref q), (1, .int (nI k))] := hl
  obtain ⟨h1, h2, h3, h4⟩ := hT.2.2.1 0 (by decide)
  refine lv_aload_n hx hb jd_chr0 rfl (lv_at hl 0 rfl) ?_
  refine j_callV (M := jm_lat) (d := d + 3) (n := 0) (as := []) (r := []) (v := some (.int 1)) (st1 := [.int 1]) ⟨hx, hb, hml, hown, hts⟩ (fun U hU hW => by rw [hU]; exact hT.alike hW.alike) j_lat (u_tm (pl := 1099) rfl) (List.forall_mem_cons.mpr ⟨u_tm (pl := 1096) rfl, List.forall_mem_cons.mpr ⟨u_tm (pl := 1097) rfl, List.forall_mem_cons.mpr ⟨u_tm (pl := 1098) rfl, List.forall_mem_cons.mpr ⟨u_tm (pl := 271) rfl, fun _ h => absurd h List.not_mem_nil⟩⟩⟩⟩) ⟨by decide, by decide, by decide +kernel⟩ rfl (by decide) (Nat.le_refl _) (Nat.le_refl _) (vk_recv hT.2.2 (i := 0) (by decide) va_S.rf) hl.1 (by decide) jd_chr1 ⟨Nat.le_refl _, Nat.le_refl _⟩ rfl rfl ?_
  refine lv_if_eq (tgt := 16) hx hb jd_chr4 (by decide) (fun z => absurd z (by decide)) (fun _ => ?_)
  refine lv_aload_n hx hb jd_chr7 rfl (lv_at hl 0 rfl) ?_
  refine vk_getf hx hb h3 va_S.rf hown (hts _ (u_tm (pl := 3026) rfl)) (fun _ h => h) jd_chr8 ?_
  refine lv_iload_n hx hb jd_chr11 rfl (lv_at hl 1 rfl) ?_
  refine j_callS (M := jm_lch) (d := d + 3) (n := 2) (as := [.ref t, .int (nI k)]) (r := []) (v := some (.int (wB.getD k 0))) (st1 := [.int (wB.getD k 0)]) ⟨hx, hb, hml, hown, hts⟩ (fun U hU hW => by rw [hU]; exact hT.alike hW.alike) (j_lch hk) (u_tm (pl := 1102) rfl) (u_tm (pl := 1100) rfl) (u_tm (pl := 1101) rfl) (u_tm (pl := 272) rfl) ⟨by decide, by decide, by decide +kernel⟩ rfl (by decide) (Nat.le_refl _) (Nat.le_refl _) hl.1 (by decide) jd_chr12 ⟨Nat.le_refl _, Nat.le_refl _⟩ rfl rfl ?_
  exact W.zret hx hb hr (wB_c k hk).2 (fun t ht _ => ⟨rfl, ht⟩) (fun _ h => by cases h) jd_chr15 hlk
end Jm
