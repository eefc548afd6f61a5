/-! ===== one step of the small machine, by the machine: what leaves the heap alone ===== -/
def u_tys (cA : Nat → ClassId) : List (ClassId × FieldType) := [(cA 0, .byte), (cA 1, .int), (cA 2, .long), (cA 3, .boolean), (cA 4, .object "HeadCounts$Rule"), (cA 5, .object "HeadCounts$State"), (cA 6, .object "HeadCounts$World"), (cA 9, .int)]
def u_AO (s : State) : Prop := va_AO "HeadCounts$Rule" s ∧ va_AO "HeadCounts$State" s ∧ va_AO "HeadCounts$World" s ∧ va_Nw (.methodLinkNest "HeadCounts" 76 ⟨"HeadCounts$Scene", "<init>", "()V"⟩ "HeadCounts") s
def u_out (base b Ls : Nat) (xs : Nat → Int32) (h : UH) : Prop := ∀ a : Nat, ¬ (base ≤ a ∧ a < h.2.1) → h.1 a = .inr (99, []) ∨ (a = b ∧ h.1 a = .inl (9, Ls, .inl xs))
/-- what stays: machine, code, tables, classes, the script's place; base: the first cell that is ours -/
def u_Fix (D : va_G) (cA : Nat → ClassId) (base b Ls : Nat) (xs : Nat → Int32) (p : Program) (R : Room) (s : State) (m : MethodId) (args : Array Value) (meth : Method) (c : Code) (own : String) (bytes : ByteArray) (nL : Nat) : Prop :=
  p.tables.exec = Jvm.exec ∧ c.code = bytes ∧ c.maxLocals = nL ∧ s.vm.findClass own = some m.cls ∧ (∀ w ∈ lw_T, w.before args s = true) ∧ va_K D vwCl (u_tys cA) s ∧ u_X base b Ls xs s s.heap ∧ u_AO s ∧ b < base ∧ base ≤ s.heap.size ∧ 1 ≤ R.frames ∧ 60 ≤ R.locals
/-- what goes on: the cells, what has changed since the method began, how many cells and slots are new -/
def u_Inv (D : va_G) (cA : Nat → ClassId) (base b Ls : Nat) (xs : Nat → Int32) (s : State) (h0 : UH) (H : Heap) (locs : List Loc) (cells slots : Nat) (h : UH) : Prop :=
  va_P D vwCl (u_w base cA h) H ∧ va_S (fun q => base ≤ q) s.heap H locs ∧ s.heap.size = h0.2.1 ∧ h0.2.1 + cells = h.2.1 ∧ h0.2.2 + slots = h.2.2 ∧ u_out base b Ls xs h
section Sim1
variable {D : va_G} {cA : Nat → ClassId} {base b Ls : Nat} {xs : Nat → Int32} {p : Program} {l : Launch} {e : Env} {R : Room} {s : State} {m : MethodId} {args : Array Value} {below : List Frame} {meth : Method} {c : Code} {own : String} {bytes : ByteArray} {nL : Nat} {rt : Option FieldType} {init : Bool} {Q : State → Prop}
variable {h0 h : UH} {H : Heap} {locs : List Loc} {cells slots : Nat} {pc pl : Nat} {L : List (Option Value)} {ls : Array Slot} {st : List Value} {y : UC} {rs : List Nat}

theorem u_lod0 {i pc n : Nat} {L : List (Option Value)} {st : List Value} {h : UH} {y : UC} (hst : u_lod 0 i pc n L st h = some (.inl y)) : ∃ v, u_ld L i = some (.int v) ∧ (pc + n, L, .int v :: st, h) = y := by
  unfold u_lod at hst
  split at hst <;> first | (rename_i e1; cases hst; exact ⟨_, e1, rfl⟩) | (simp_all; done)
theorem u_lod1 {i pc n : Nat} {L : List (Option Value)} {st : List Value} {h : UH} {y : UC} (hst : u_lod 1 i pc n L st h = some (.inl y)) : ∃ v, u_ld L i = some (.long v) ∧ (pc + n, L, .long v :: st, h) = y := by
  unfold u_lod at hst
  split at hst <;> first | (rename_i e1; cases hst; exact ⟨_, e1, rfl⟩) | (simp_all; done)
theorem u_lod2 {i pc n : Nat} {L : List (Option Value)} {st : List Value} {h : UH} {y : UC} (hst : u_lod 2 i pc n L st h = some (.inl y)) : (∃ v, u_ld L i = some (.ref v) ∧ (pc + n, L, .ref v :: st, h) = y) ∨ (u_ld L i = some .null ∧ (pc + n, L, .null :: st, h) = y) := by
  unfold u_lod at hst
  split at hst <;> first | (rename_i e1; cases hst; exact Or.inl ⟨_, e1, rfl⟩) | (rename_i e1; cases hst; exact Or.inr ⟨e1, rfl⟩) | (simp_all; done)
theorem u_sto0 {i pc n : Nat} {L : List (Option Value)} {st : List Value} {h : UH} {y : UC} (hst : u_sto 0 i pc n L st h = some (.inl y)) : ∃ v r, st = .int v :: r ∧ i < L.length ∧ (pc + n, u_st1 L i (.int v), r, h) = y := by
  unfold u_sto at hst
  split at hst <;> first | (split at hst; · (rename_i e1; cases hst; exact ⟨_, _, rfl, e1, rfl⟩); · cases hst) | (simp_all; done)
theorem u_sto1 {i pc n : Nat} {L : List (Option Value)} {st : List Value} {h : UH} {y : UC} (hst : u_sto 1 i pc n L st h = some (.inl y)) : ∃ v r, st = .long v :: r ∧ i + 1 < L.length ∧ (pc + n, u_st2 L i (.long v), r, h) = y := by
  unfold u_sto at hst
  split at hst <;> first | (split at hst; · (rename_i e1; cases hst; exact ⟨_, _, rfl, e1, rfl⟩); · cases hst) | (simp_all; done)
theorem u_sto2 {i pc n : Nat} {L : List (Option Value)} {st : List Value} {h : UH} {y : UC} (hst : u_sto 2 i pc n L st h = some (.inl y)) : (∃ v r, st = .ref v :: r ∧ i < L.length ∧ (pc + n, u_st1 L i (.ref v), r, h) = y) ∨ (∃ r, st = .null :: r ∧ i < L.length ∧ (pc + n, u_st1 L i .null, r, h) = y) := by
  unfold u_sto at hst
  split at hst <;> first | (split at hst; · (rename_i e1; cases hst; first | exact Or.inl ⟨_, _, rfl, e1, rfl⟩ | exact Or.inr ⟨_, rfl, e1, rfl⟩); · cases hst) | (simp_all; done)

theorem us_iconst {n : Int} (hF : u_Fix D cA base b Ls xs p R s m args meth c own bytes nL) (hLR : u_LR nL L ls) (hok : u_ok own bytes rt init pc (.iconst n, rs) pl = true) (hst : ustep (.iconst n, rs) (pc, L, st, h) = some (.inl y)) (K : W p l e R s m args below meth c H locs cells slots Q (F0 m y.1 ls y.2.2.1)) : W p l e R s m args below meth c H locs cells slots Q (F0 m pc ls st) := by
  obtain ⟨hx, hb, hml, hown, hts, -⟩ := hF
  have hd := u_okd hok rfl
  obtain rfl := Sum.inl.inj (Option.some.inj hst)
  exact lv_iconst hx hb hd rfl K

theorem us_bipush {n : Int} (hF : u_Fix D cA base b Ls xs p R s m args meth c own bytes nL) (hLR : u_LR nL L ls) (hok : u_ok own bytes rt init pc (.bipush n, rs) pl = true) (hst : ustep (.bipush n, rs) (pc, L, st, h) = some (.inl y)) (K : W p l e R s m args below meth c H locs cells slots Q (F0 m y.1 ls y.2.2.1)) : W p l e R s m args below meth c H locs cells slots Q (F0 m pc ls st) := by
  obtain ⟨hx, hb, hml, hown, hts, -⟩ := hF
  have hd := u_okd hok rfl
  obtain rfl := Sum.inl.inj (Option.some.inj hst)
  exact lv_bipush hx hb hd rfl K

theorem us_sipush {n : Int} (hF : u_Fix D cA base b Ls xs p R s m args meth c own bytes nL) (hLR : u_LR nL L ls) (hok : u_ok own bytes rt init pc (.sipush n, rs) pl = true) (hst : ustep (.sipush n, rs) (pc, L, st, h) = some (.inl y)) (K : W p l e R s m args below meth c H locs cells slots Q (F0 m y.1 ls y.2.2.1)) : W p l e R s m args below meth c H locs cells slots Q (F0 m pc ls st) := by
  obtain ⟨hx, hb, hml, hown, hts, -⟩ := hF
  have hd := u_okd hok rfl
  obtain rfl := Sum.inl.inj (Option.some.inj hst)
  exact lv_sipush hx hb hd rfl K

theorem us_lconst {n : Fin 2} (hF : u_Fix D cA base b Ls xs p R s m args meth c own bytes nL) (hLR : u_LR nL L ls) (hok : u_ok own bytes rt init pc (.lconst n, rs) pl = true) (hst : ustep (.lconst n, rs) (pc, L, st, h) = some (.inl y)) (K : W p l e R s m args below meth c H locs cells slots Q (F0 m y.1 ls y.2.2.1)) : W p l e R s m args below meth c H locs cells slots Q (F0 m pc ls st) := by
  obtain ⟨hx, hb, hml, hown, hts, -⟩ := hF
  have hd := u_okd hok rfl
  obtain rfl := Sum.inl.inj (Option.some.inj hst)
  exact lv_lconst hx hb hd rfl K

theorem us_null (hF : u_Fix D cA base b Ls xs p R s m args meth c own bytes nL) (hLR : u_LR nL L ls) (hok : u_ok own bytes rt init pc (.aconst_null, rs) pl = true) (hst : ustep (.aconst_null, rs) (pc, L, st, h) = some (.inl y)) (K : W p l e R s m args below meth c H locs cells slots Q (F0 m y.1 ls y.2.2.1)) : W p l e R s m args below meth c H locs cells slots Q (F0 m pc ls st) := by
  obtain ⟨hx, hb, hml, hown, hts, -⟩ := hF
  have hd := u_okd hok rfl
  obtain rfl := Sum.inl.inj (Option.some.inj hst)
  exact lv_null hx hb hd K

theorem us_ldc {x : Nat} (hF : u_Fix D cA base b Ls xs p R s m args meth c own bytes nL) (hLR : u_LR nL L ls) (hok : u_ok own bytes rt init pc (.ldc x, rs) pl = true) (hst : ustep (.ldc x, rs) (pc, L, st, h) = some (.inl y)) (K : W p l e R s m args below meth c H locs cells slots Q (F0 m y.1 ls y.2.2.1)) : W p l e R s m args below meth c H locs cells slots Q (F0 m pc ls st) := by
  obtain ⟨hx, hb, hml, hown, hts, -⟩ := hF
  have hd := u_okd hok rfl
  replace hst : v_ldc rs pc L st h = some (.inl y) := hst
  have ho := u_ok2 hok
  unfold v_ldc at hst
  split at hst
  · rename_i v
    cases hst
    exact lv_ldc hx hb hown (hts _ (u_tm (of_decide_eq_true ho))) hd K
  · cases hst

theorem us_ldc_w {x : Nat} (hF : u_Fix D cA base b Ls xs p R s m args meth c own bytes nL) (hLR : u_LR nL L ls) (hok : u_ok own bytes rt init pc (.ldc_w x, rs) pl = true) (hst : ustep (.ldc_w x, rs) (pc, L, st, h) = some (.inl y)) (K : W p l e R s m args below meth c H locs cells slots Q (F0 m y.1 ls y.2.2.1)) : W p l e R s m args below meth c H locs cells slots Q (F0 m pc ls st) := by
  obtain ⟨hx, hb, hml, hown, hts, -⟩ := hF
  have hd := u_okd hok rfl
  replace hst : v_ldc_w rs pc L st h = some (.inl y) := hst
  have ho := u_ok2 hok
  unfold v_ldc_w at hst
  split at hst
  · rename_i v
    cases hst
    exact lv_ldcw hx hb hown (hts _ (u_tm (of_decide_eq_true ho))) hd K
  · cases hst

theorem us_ldc2_w {x : Nat} (hF : u_Fix D cA base b Ls xs p R s m args meth c own bytes nL) (hLR : u_LR nL L ls) (hok : u_ok own bytes rt init pc (.ldc2_w x, rs) pl = true) (hst : ustep (.ldc2_w x, rs) (pc, L, st, h) = some (.inl y)) (K : W p l e R s m args below meth c H locs cells slots Q (F0 m y.1 ls y.2.2.1)) : W p l e R s m args below meth c H locs cells slots Q (F0 m pc ls st) := by
  obtain ⟨hx, hb, hml, hown, hts, -⟩ := hF
  have hd := u_okd hok rfl
  replace hst : v_ldc2_w rs pc L st h = some (.inl y) := hst
  have ho := u_ok2 hok
  unfold v_ldc2_w at hst
  split at hst
  · rename_i v
    cases hst
    exact lv_ldc2 hx hb hown (hts _ (u_tm (of_decide_eq_true ho))) hd K
  · cases hst

theorem us_iload {k : Nat} (hF : u_Fix D cA base b Ls xs p R s m args meth c own bytes nL) (hLR : u_LR nL L ls) (hok : u_ok own bytes rt init pc (.iload k, rs) pl = true) (hst : ustep (.iload k, rs) (pc, L, st, h) = some (.inl y)) (K : W p l e R s m args below meth c H locs cells slots Q (F0 m y.1 ls y.2.2.1)) : W p l e R s m args below meth c H locs cells slots Q (F0 m pc ls st) := by
  obtain ⟨hx, hb, hml, hown, hts, -⟩ := hF
  have hd := u_okd hok rfl
  obtain ⟨v, e1, rfl⟩ := u_lod0 hst
  exact lv_iload hx hb hd (hLR.ld e1) K

theorem us_iload_n {k : Fin 4} (hF : u_Fix D cA base b Ls xs p R s m args meth c own bytes nL) (hLR : u_LR nL L ls) (hok : u_ok own bytes rt init pc (.iload_n k, rs) pl = true) (hst : ustep (.iload_n k, rs) (pc, L, st, h) = some (.inl y)) (K : W p l e R s m args below meth c H locs cells slots Q (F0 m y.1 ls y.2.2.1)) : W p l e R s m args below meth c H locs cells slots Q (F0 m pc ls st) := by
  obtain ⟨hx, hb, hml, hown, hts, -⟩ := hF
  have hd := u_okd hok rfl
  obtain ⟨v, e1, rfl⟩ := u_lod0 hst
  exact lv_iload_n hx hb hd rfl (hLR.ld e1) K

theorem us_lload {k : Nat} (hF : u_Fix D cA base b Ls xs p R s m args meth c own bytes nL) (hLR : u_LR nL L ls) (hok : u_ok own bytes rt init pc (.lload k, rs) pl = true) (hst : ustep (.lload k, rs) (pc, L, st, h) = some (.inl y)) (K : W p l e R s m args below meth c H locs cells slots Q (F0 m y.1 ls y.2.2.1)) : W p l e R s m args below meth c H locs cells slots Q (F0 m pc ls st) := by
  obtain ⟨hx, hb, hml, hown, hts, -⟩ := hF
  have hd := u_okd hok rfl
  obtain ⟨v, e1, rfl⟩ := u_lod1 hst
  exact lv_lload hx hb hd (hLR.ld e1) K

theorem us_lload_n {k : Fin 4} (hF : u_Fix D cA base b Ls xs p R s m args meth c own bytes nL) (hLR : u_LR nL L ls) (hok : u_ok own bytes rt init pc (.lload_n k, rs) pl = true) (hst : ustep (.lload_n k, rs) (pc, L, st, h) = some (.inl y)) (K : W p l e R s m args below meth c H locs cells slots Q (F0 m y.1 ls y.2.2.1)) : W p l e R s m args below meth c H locs cells slots Q (F0 m pc ls st) := by
  obtain ⟨hx, hb, hml, hown, hts, -⟩ := hF
  have hd := u_okd hok rfl
  obtain ⟨v, e1, rfl⟩ := u_lod1 hst
  exact lv_lload_n hx hb hd rfl (hLR.ld e1) K

theorem us_aload {k : Nat} (hF : u_Fix D cA base b Ls xs p R s m args meth c own bytes nL) (hLR : u_LR nL L ls) (hok : u_ok own bytes rt init pc (.aload k, rs) pl = true) (hst : ustep (.aload k, rs) (pc, L, st, h) = some (.inl y)) (K : W p l e R s m args below meth c H locs cells slots Q (F0 m y.1 ls y.2.2.1)) : W p l e R s m args below meth c H locs cells slots Q (F0 m pc ls st) := by
  obtain ⟨hx, hb, hml, hown, hts, -⟩ := hF
  have hd := u_okd hok rfl
  rcases u_lod2 hst with ⟨v, e1, rfl⟩ | ⟨e1, rfl⟩
  · exact lv_aload hx hb hd (hLR.ld e1) K
  · exact lv_aloadN hx hb hd (hLR.ld e1) K

theorem us_aload_n {k : Fin 4} (hF : u_Fix D cA base b Ls xs p R s m args meth c own bytes nL) (hLR : u_LR nL L ls) (hok : u_ok own bytes rt init pc (.aload_n k, rs) pl = true) (hst : ustep (.aload_n k, rs) (pc, L, st, h) = some (.inl y)) (K : W p l e R s m args below meth c H locs cells slots Q (F0 m y.1 ls y.2.2.1)) : W p l e R s m args below meth c H locs cells slots Q (F0 m pc ls st) := by
  obtain ⟨hx, hb, hml, hown, hts, -⟩ := hF
  have hd := u_okd hok rfl
  rcases u_lod2 hst with ⟨v, e1, rfl⟩ | ⟨e1, rfl⟩
  · exact lv_aload_n hx hb hd rfl (hLR.ld e1) K
  · exact lv_aload_nN hx hb hd rfl (hLR.ld e1) K

theorem us_istore {k : Nat} (hF : u_Fix D cA base b Ls xs p R s m args meth c own bytes nL) (hLR : u_LR nL L ls) (hok : u_ok own bytes rt init pc (.istore k, rs) pl = true) (hst : ustep (.istore k, rs) (pc, L, st, h) = some (.inl y)) (K : ∀ ls' : Array Slot, u_LR nL y.2.1 ls' → W p l e R s m args below meth c H locs cells slots Q (F0 m y.1 ls' y.2.2.1)) : W p l e R s m args below meth c H locs cells slots Q (F0 m pc ls st) := by
  obtain ⟨hx, hb, hml, hown, hts, -⟩ := hF
  have hd := u_okd hok rfl
  obtain ⟨v, r, rfl, e1, rfl⟩ := u_sto0 hst
  rw [hLR.1] at e1
  exact lv_istore hx hb hd hLR.2 e1 rfl (fun ls' hl => K ls' (u_LR.st1 hLR.1 e1 hl))

theorem us_istore_n {k : Fin 4} (hF : u_Fix D cA base b Ls xs p R s m args meth c own bytes nL) (hLR : u_LR nL L ls) (hok : u_ok own bytes rt init pc (.istore_n k, rs) pl = true) (hst : ustep (.istore_n k, rs) (pc, L, st, h) = some (.inl y)) (K : ∀ ls' : Array Slot, u_LR nL y.2.1 ls' → W p l e R s m args below meth c H locs cells slots Q (F0 m y.1 ls' y.2.2.1)) : W p l e R s m args below meth c H locs cells slots Q (F0 m pc ls st) := by
  obtain ⟨hx, hb, hml, hown, hts, -⟩ := hF
  have hd := u_okd hok rfl
  obtain ⟨v, r, rfl, e1, rfl⟩ := u_sto0 hst
  rw [hLR.1] at e1
  exact lv_istore_n hx hb hd rfl hLR.2 e1 rfl (fun ls' hl => K ls' (u_LR.st1 hLR.1 e1 hl))

theorem us_lstore {k : Nat} (hF : u_Fix D cA base b Ls xs p R s m args meth c own bytes nL) (hLR : u_LR nL L ls) (hok : u_ok own bytes rt init pc (.lstore k, rs) pl = true) (hst : ustep (.lstore k, rs) (pc, L, st, h) = some (.inl y)) (K : ∀ ls' : Array Slot, u_LR nL y.2.1 ls' → W p l e R s m args below meth c H locs cells slots Q (F0 m y.1 ls' y.2.2.1)) : W p l e R s m args below meth c H locs cells slots Q (F0 m pc ls st) := by
  obtain ⟨hx, hb, hml, hown, hts, -⟩ := hF
  have hd := u_okd hok rfl
  obtain ⟨v, r, rfl, e1, rfl⟩ := u_sto1 hst
  rw [hLR.1] at e1
  exact lv_lstore hx hb hd hLR.2 e1 rfl (fun ls' hl => K ls' (u_LR.st2 hLR.1 e1 hl))

theorem us_lstore_n {k : Fin 4} (hF : u_Fix D cA base b Ls xs p R s m args meth c own bytes nL) (hLR : u_LR nL L ls) (hok : u_ok own bytes rt init pc (.lstore_n k, rs) pl = true) (hst : ustep (.lstore_n k, rs) (pc, L, st, h) = some (.inl y)) (K : ∀ ls' : Array Slot, u_LR nL y.2.1 ls' → W p l e R s m args below meth c H locs cells slots Q (F0 m y.1 ls' y.2.2.1)) : W p l e R s m args below meth c H locs cells slots Q (F0 m pc ls st) := by
  obtain ⟨hx, hb, hml, hown, hts, -⟩ := hF
  have hd := u_okd hok rfl
  obtain ⟨v, r, rfl, e1, rfl⟩ := u_sto1 hst
  rw [hLR.1] at e1
  exact lv_lstore_n hx hb hd rfl hLR.2 e1 rfl (fun ls' hl => K ls' (u_LR.st2 hLR.1 e1 hl))

theorem us_astore {k : Nat} (hF : u_Fix D cA base b Ls xs p R s m args meth c own bytes nL) (hLR : u_LR nL L ls) (hok : u_ok own bytes rt init pc (.astore k, rs) pl = true) (hst : ustep (.astore k, rs) (pc, L, st, h) = some (.inl y)) (K : ∀ ls' : Array Slot, u_LR nL y.2.1 ls' → W p l e R s m args below meth c H locs cells slots Q (F0 m y.1 ls' y.2.2.1)) : W p l e R s m args below meth c H locs cells slots Q (F0 m pc ls st) := by
  obtain ⟨hx, hb, hml, hown, hts, -⟩ := hF
  have hd := u_okd hok rfl
  rcases u_sto2 hst with ⟨v, r, rfl, e1, rfl⟩ | ⟨r, rfl, e1, rfl⟩
  · rw [hLR.1] at e1
    exact lv_astore hx hb hd hLR.2 e1 rfl (fun ls' hl => K ls' (u_LR.st1 hLR.1 e1 hl))
  · rw [hLR.1] at e1
    exact lv_astoreN hx hb hd hLR.2 e1 rfl (fun ls' hl => K ls' (u_LR.st1 hLR.1 e1 hl))

theorem us_astore_n {k : Fin 4} (hF : u_Fix D cA base b Ls xs p R s m args meth c own bytes nL) (hLR : u_LR nL L ls) (hok : u_ok own bytes rt init pc (.astore_n k, rs) pl = true) (hst : ustep (.astore_n k, rs) (pc, L, st, h) = some (.inl y)) (K : ∀ ls' : Array Slot, u_LR nL y.2.1 ls' → W p l e R s m args below meth c H locs cells slots Q (F0 m y.1 ls' y.2.2.1)) : W p l e R s m args below meth c H locs cells slots Q (F0 m pc ls st) := by
  obtain ⟨hx, hb, hml, hown, hts, -⟩ := hF
  have hd := u_okd hok rfl
  rcases u_sto2 hst with ⟨v, r, rfl, e1, rfl⟩ | ⟨r, rfl, e1, rfl⟩
  · rw [hLR.1] at e1
    exact lv_astore_n hx hb hd rfl hLR.2 e1 rfl (fun ls' hl => K ls' (u_LR.st1 hLR.1 e1 hl))
  · rw [hLR.1] at e1
    exact lv_astore_nN hx hb hd rfl hLR.2 e1 rfl (fun ls' hl => K ls' (u_LR.st1 hLR.1 e1 hl))

theorem us_iinc {k : Nat} {n : Int} (hF : u_Fix D cA base b Ls xs p R s m args meth c own bytes nL) (hLR : u_LR nL L ls) (hok : u_ok own bytes rt init pc (.iinc k n, rs) pl = true) (hst : ustep (.iinc k n, rs) (pc, L, st, h) = some (.inl y)) (K : ∀ ls' : Array Slot, u_LR nL y.2.1 ls' → W p l e R s m args below meth c H locs cells slots Q (F0 m y.1 ls' y.2.2.1)) : W p l e R s m args below meth c H locs cells slots Q (F0 m pc ls st) := by
  obtain ⟨hx, hb, hml, hown, hts, -⟩ := hF
  have hd := u_okd hok rfl
  replace hst : v_iinc k n rs pc L st h = some (.inl y) := hst
  unfold v_iinc at hst
  split at hst
  · rename_i x e1
    split at hst
    · rename_i e2
      cases hst
      rw [hLR.1] at e2
      obtain ⟨j, hj⟩ : ∃ j, (u_prs L)[j]? = some (k, Value.int x) := List.mem_iff_getElem?.mp (u_prs_mem.mpr (by
        unfold u_ld at e1
        rw [List.getD_eq_getElem?_getD] at e1
        rcases hq : L[k]? with _ | w
        · rw [hq] at e1; cases e1
        · rw [hq] at e1; simp at e1; rw [e1]))
      exact lv_iinc hx hb hd hLR.2 hj rfl e2 rfl (fun ls' hl => K ls' (u_LR.st1 hLR.1 e2 hl))
    · cases hst
  · cases hst

theorem us_iadd (hF : u_Fix D cA base b Ls xs p R s m args meth c own bytes nL) (hLR : u_LR nL L ls) (hok : u_ok own bytes rt init pc (.iadd, rs) pl = true) (hst : ustep (.iadd, rs) (pc, L, st, h) = some (.inl y)) (K : W p l e R s m args below meth c H locs cells slots Q (F0 m y.1 ls y.2.2.1)) : W p l e R s m args below meth c H locs cells slots Q (F0 m pc ls st) := by
  obtain ⟨hx, hb, hml, hown, hts, -⟩ := hF
  have hd := u_okd hok rfl
  replace hst : u_iop (· + ·) pc L st h = some (.inl y) := hst
  unfold u_iop at hst
  split at hst
  · cases hst
    exact lv_iadd hx hb hd K
  · cases hst

theorem us_isub (hF : u_Fix D cA base b Ls xs p R s m args meth c own bytes nL) (hLR : u_LR nL L ls) (hok : u_ok own bytes rt init pc (.isub, rs) pl = true) (hst : ustep (.isub, rs) (pc, L, st, h) = some (.inl y)) (K : W p l e R s m args below meth c H locs cells slots Q (F0 m y.1 ls y.2.2.1)) : W p l e R s m args below meth c H locs cells slots Q (F0 m pc ls st) := by
  obtain ⟨hx, hb, hml, hown, hts, -⟩ := hF
  have hd := u_okd hok rfl
  replace hst : u_iop (· - ·) pc L st h = some (.inl y) := hst
  unfold u_iop at hst
  split at hst
  · cases hst
    exact lv_isub hx hb hd K
  · cases hst

theorem us_imul (hF : u_Fix D cA base b Ls xs p R s m args meth c own bytes nL) (hLR : u_LR nL L ls) (hok : u_ok own bytes rt init pc (.imul, rs) pl = true) (hst : ustep (.imul, rs) (pc, L, st, h) = some (.inl y)) (K : W p l e R s m args below meth c H locs cells slots Q (F0 m y.1 ls y.2.2.1)) : W p l e R s m args below meth c H locs cells slots Q (F0 m pc ls st) := by
  obtain ⟨hx, hb, hml, hown, hts, -⟩ := hF
  have hd := u_okd hok rfl
  replace hst : u_iop (· * ·) pc L st h = some (.inl y) := hst
  unfold u_iop at hst
  split at hst
  · cases hst
    exact lv_imul hx hb hd K
  · cases hst

theorem us_iand (hF : u_Fix D cA base b Ls xs p R s m args meth c own bytes nL) (hLR : u_LR nL L ls) (hok : u_ok own bytes rt init pc (.iand, rs) pl = true) (hst : ustep (.iand, rs) (pc, L, st, h) = some (.inl y)) (K : W p l e R s m args below meth c H locs cells slots Q (F0 m y.1 ls y.2.2.1)) : W p l e R s m args below meth c H locs cells slots Q (F0 m pc ls st) := by
  obtain ⟨hx, hb, hml, hown, hts, -⟩ := hF
  have hd := u_okd hok rfl
  replace hst : u_iop (· &&& ·) pc L st h = some (.inl y) := hst
  unfold u_iop at hst
  split at hst
  · cases hst
    exact lv_iand hx hb hd K
  · cases hst

theorem us_ior (hF : u_Fix D cA base b Ls xs p R s m args meth c own bytes nL) (hLR : u_LR nL L ls) (hok : u_ok own bytes rt init pc (.ior, rs) pl = true) (hst : ustep (.ior, rs) (pc, L, st, h) = some (.inl y)) (K : W p l e R s m args below meth c H locs cells slots Q (F0 m y.1 ls y.2.2.1)) : W p l e R s m args below meth c H locs cells slots Q (F0 m pc ls st) := by
  obtain ⟨hx, hb, hml, hown, hts, -⟩ := hF
  have hd := u_okd hok rfl
  replace hst : u_iop (· ||| ·) pc L st h = some (.inl y) := hst
  unfold u_iop at hst
  split at hst
  · cases hst
    exact lv_ior hx hb hd K
  · cases hst

theorem us_ixor (hF : u_Fix D cA base b Ls xs p R s m args meth c own bytes nL) (hLR : u_LR nL L ls) (hok : u_ok own bytes rt init pc (.ixor, rs) pl = true) (hst : ustep (.ixor, rs) (pc, L, st, h) = some (.inl y)) (K : W p l e R s m args below meth c H locs cells slots Q (F0 m y.1 ls y.2.2.1)) : W p l e R s m args below meth c H locs cells slots Q (F0 m pc ls st) := by
  obtain ⟨hx, hb, hml, hown, hts, -⟩ := hF
  have hd := u_okd hok rfl
  replace hst : u_iop (· ^^^ ·) pc L st h = some (.inl y) := hst
  unfold u_iop at hst
  split at hst
  · cases hst
    exact lv_ixor hx hb hd K
  · cases hst

theorem us_ishl (hF : u_Fix D cA base b Ls xs p R s m args meth c own bytes nL) (hLR : u_LR nL L ls) (hok : u_ok own bytes rt init pc (.ishl, rs) pl = true) (hst : ustep (.ishl, rs) (pc, L, st, h) = some (.inl y)) (K : W p l e R s m args below meth c H locs cells slots Q (F0 m y.1 ls y.2.2.1)) : W p l e R s m args below meth c H locs cells slots Q (F0 m pc ls st) := by
  obtain ⟨hx, hb, hml, hown, hts, -⟩ := hF
  have hd := u_okd hok rfl
  replace hst : u_iop (fun z y => z <<< (y &&& 31)) pc L st h = some (.inl y) := hst
  unfold u_iop at hst
  split at hst
  · cases hst
    exact lv_ishl hx hb hd K
  · cases hst

theorem us_ishr (hF : u_Fix D cA base b Ls xs p R s m args meth c own bytes nL) (hLR : u_LR nL L ls) (hok : u_ok own bytes rt init pc (.ishr, rs) pl = true) (hst : ustep (.ishr, rs) (pc, L, st, h) = some (.inl y)) (K : W p l e R s m args below meth c H locs cells slots Q (F0 m y.1 ls y.2.2.1)) : W p l e R s m args below meth c H locs cells slots Q (F0 m pc ls st) := by
  obtain ⟨hx, hb, hml, hown, hts, -⟩ := hF
  have hd := u_okd hok rfl
  replace hst : u_iop (fun z y => z >>> (y &&& 31)) pc L st h = some (.inl y) := hst
  unfold u_iop at hst
  split at hst
  · cases hst
    exact lv_ishr hx hb hd K
  · cases hst

theorem us_iushr (hF : u_Fix D cA base b Ls xs p R s m args meth c own bytes nL) (hLR : u_LR nL L ls) (hok : u_ok own bytes rt init pc (.iushr, rs) pl = true) (hst : ustep (.iushr, rs) (pc, L, st, h) = some (.inl y)) (K : W p l e R s m args below meth c H locs cells slots Q (F0 m y.1 ls y.2.2.1)) : W p l e R s m args below meth c H locs cells slots Q (F0 m pc ls st) := by
  obtain ⟨hx, hb, hml, hown, hts, -⟩ := hF
  have hd := u_okd hok rfl
  replace hst : u_iop (fun z y => (z.toUInt32 >>> (y.toUInt32 &&& Int32.toUInt32 31)).toInt32) pc L st h = some (.inl y) := hst
  unfold u_iop at hst
  split at hst
  · cases hst
    exact lv_iushr hx hb hd rfl K
  · cases hst

theorem us_ladd (hF : u_Fix D cA base b Ls xs p R s m args meth c own bytes nL) (hLR : u_LR nL L ls) (hok : u_ok own bytes rt init pc (.ladd, rs) pl = true) (hst : ustep (.ladd, rs) (pc, L, st, h) = some (.inl y)) (K : W p l e R s m args below meth c H locs cells slots Q (F0 m y.1 ls y.2.2.1)) : W p l e R s m args below meth c H locs cells slots Q (F0 m pc ls st) := by
  obtain ⟨hx, hb, hml, hown, hts, -⟩ := hF
  have hd := u_okd hok rfl
  replace hst : u_lop (· + ·) pc L st h = some (.inl y) := hst
  unfold u_lop at hst
  split at hst
  · cases hst
    exact lv_ladd hx hb hd K
  · cases hst

theorem us_lsub (hF : u_Fix D cA base b Ls xs p R s m args meth c own bytes nL) (hLR : u_LR nL L ls) (hok : u_ok own bytes rt init pc (.lsub, rs) pl = true) (hst : ustep (.lsub, rs) (pc, L, st, h) = some (.inl y)) (K : W p l e R s m args below meth c H locs cells slots Q (F0 m y.1 ls y.2.2.1)) : W p l e R s m args below meth c H locs cells slots Q (F0 m pc ls st) := by
  obtain ⟨hx, hb, hml, hown, hts, -⟩ := hF
  have hd := u_okd hok rfl
  replace hst : u_lop (· - ·) pc L st h = some (.inl y) := hst
  unfold u_lop at hst
  split at hst
  · cases hst
    exact lv_lsub hx hb hd K
  · cases hst

theorem us_lmul (hF : u_Fix D cA base b Ls xs p R s m args meth c own bytes nL) (hLR : u_LR nL L ls) (hok : u_ok own bytes rt init pc (.lmul, rs) pl = true) (hst : ustep (.lmul, rs) (pc, L, st, h) = some (.inl y)) (K : W p l e R s m args below meth c H locs cells slots Q (F0 m y.1 ls y.2.2.1)) : W p l e R s m args below meth c H locs cells slots Q (F0 m pc ls st) := by
  obtain ⟨hx, hb, hml, hown, hts, -⟩ := hF
  have hd := u_okd hok rfl
  replace hst : u_lop (· * ·) pc L st h = some (.inl y) := hst
  unfold u_lop at hst
  split at hst
  · cases hst
    exact lv_lmul hx hb hd K
  · cases hst

theorem us_land (hF : u_Fix D cA base b Ls xs p R s m args meth c own bytes nL) (hLR : u_LR nL L ls) (hok : u_ok own bytes rt init pc (.land, rs) pl = true) (hst : ustep (.land, rs) (pc, L, st, h) = some (.inl y)) (K : W p l e R s m args below meth c H locs cells slots Q (F0 m y.1 ls y.2.2.1)) : W p l e R s m args below meth c H locs cells slots Q (F0 m pc ls st) := by
  obtain ⟨hx, hb, hml, hown, hts, -⟩ := hF
  have hd := u_okd hok rfl
  replace hst : u_lop (· &&& ·) pc L st h = some (.inl y) := hst
  unfold u_lop at hst
  split at hst
  · cases hst
    exact lv_land hx hb hd K
  · cases hst

theorem us_lor (hF : u_Fix D cA base b Ls xs p R s m args meth c own bytes nL) (hLR : u_LR nL L ls) (hok : u_ok own bytes rt init pc (.lor, rs) pl = true) (hst : ustep (.lor, rs) (pc, L, st, h) = some (.inl y)) (K : W p l e R s m args below meth c H locs cells slots Q (F0 m y.1 ls y.2.2.1)) : W p l e R s m args below meth c H locs cells slots Q (F0 m pc ls st) := by
  obtain ⟨hx, hb, hml, hown, hts, -⟩ := hF
  have hd := u_okd hok rfl
  replace hst : u_lop (· ||| ·) pc L st h = some (.inl y) := hst
  unfold u_lop at hst
  split at hst
  · cases hst
    exact lv_lor hx hb hd K
  · cases hst

theorem us_lshl (hF : u_Fix D cA base b Ls xs p R s m args meth c own bytes nL) (hLR : u_LR nL L ls) (hok : u_ok own bytes rt init pc (.lshl, rs) pl = true) (hst : ustep (.lshl, rs) (pc, L, st, h) = some (.inl y)) (K : W p l e R s m args below meth c H locs cells slots Q (F0 m y.1 ls y.2.2.1)) : W p l e R s m args below meth c H locs cells slots Q (F0 m pc ls st) := by
  obtain ⟨hx, hb, hml, hown, hts, -⟩ := hF
  have hd := u_okd hok rfl
  replace hst : v_lshl rs pc L st h = some (.inl y) := hst
  unfold v_lshl at hst
  split at hst
  · cases hst
    exact lv_lshl hx hb hd rfl K
  · cases hst

theorem us_lshr (hF : u_Fix D cA base b Ls xs p R s m args meth c own bytes nL) (hLR : u_LR nL L ls) (hok : u_ok own bytes rt init pc (.lshr, rs) pl = true) (hst : ustep (.lshr, rs) (pc, L, st, h) = some (.inl y)) (K : W p l e R s m args below meth c H locs cells slots Q (F0 m y.1 ls y.2.2.1)) : W p l e R s m args below meth c H locs cells slots Q (F0 m pc ls st) := by
  obtain ⟨hx, hb, hml, hown, hts, -⟩ := hF
  have hd := u_okd hok rfl
  replace hst : v_lshr rs pc L st h = some (.inl y) := hst
  unfold v_lshr at hst
  split at hst
  · cases hst
    exact lv_lshr hx hb hd rfl K
  · cases hst

theorem us_i2l (hF : u_Fix D cA base b Ls xs p R s m args meth c own bytes nL) (hLR : u_LR nL L ls) (hok : u_ok own bytes rt init pc (.i2l, rs) pl = true) (hst : ustep (.i2l, rs) (pc, L, st, h) = some (.inl y)) (K : W p l e R s m args below meth c H locs cells slots Q (F0 m y.1 ls y.2.2.1)) : W p l e R s m args below meth c H locs cells slots Q (F0 m pc ls st) := by
  obtain ⟨hx, hb, hml, hown, hts, -⟩ := hF
  have hd := u_okd hok rfl
  replace hst : v_i2l rs pc L st h = some (.inl y) := hst
  unfold v_i2l at hst
  split at hst
  · cases hst
    exact lv_i2l hx hb hd rfl K
  · cases hst

theorem us_l2i (hF : u_Fix D cA base b Ls xs p R s m args meth c own bytes nL) (hLR : u_LR nL L ls) (hok : u_ok own bytes rt init pc (.l2i, rs) pl = true) (hst : ustep (.l2i, rs) (pc, L, st, h) = some (.inl y)) (K : W p l e R s m args below meth c H locs cells slots Q (F0 m y.1 ls y.2.2.1)) : W p l e R s m args below meth c H locs cells slots Q (F0 m pc ls st) := by
  obtain ⟨hx, hb, hml, hown, hts, -⟩ := hF
  have hd := u_okd hok rfl
  replace hst : v_l2i rs pc L st h = some (.inl y) := hst
  unfold v_l2i at hst
  split at hst
  · cases hst
    exact lv_l2i hx hb hd rfl K
  · cases hst

theorem us_i2b (hF : u_Fix D cA base b Ls xs p R s m args meth c own bytes nL) (hLR : u_LR nL L ls) (hok : u_ok own bytes rt init pc (.i2b, rs) pl = true) (hst : ustep (.i2b, rs) (pc, L, st, h) = some (.inl y)) (K : W p l e R s m args below meth c H locs cells slots Q (F0 m y.1 ls y.2.2.1)) : W p l e R s m args below meth c H locs cells slots Q (F0 m pc ls st) := by
  obtain ⟨hx, hb, hml, hown, hts, -⟩ := hF
  have hd := u_okd hok rfl
  replace hst : v_i2b rs pc L st h = some (.inl y) := hst
  unfold v_i2b at hst
  split at hst
  · cases hst
    exact lv_i2b hx hb hd rfl K
  · cases hst

theorem us_ineg (hF : u_Fix D cA base b Ls xs p R s m args meth c own bytes nL) (hLR : u_LR nL L ls) (hok : u_ok own bytes rt init pc (.ineg, rs) pl = true) (hst : ustep (.ineg, rs) (pc, L, st, h) = some (.inl y)) (K : W p l e R s m args below meth c H locs cells slots Q (F0 m y.1 ls y.2.2.1)) : W p l e R s m args below meth c H locs cells slots Q (F0 m pc ls st) := by
  obtain ⟨hx, hb, hml, hown, hts, -⟩ := hF
  have hd := u_okd hok rfl
  replace hst : v_ineg rs pc L st h = some (.inl y) := hst
  unfold v_ineg at hst
  split at hst
  · cases hst
    exact lv_ineg hx hb hd K
  · cases hst

theorem us_lcmp (hF : u_Fix D cA base b Ls xs p R s m args meth c own bytes nL) (hLR : u_LR nL L ls) (hok : u_ok own bytes rt init pc (.lcmp, rs) pl = true) (hst : ustep (.lcmp, rs) (pc, L, st, h) = some (.inl y)) (K : W p l e R s m args below meth c H locs cells slots Q (F0 m y.1 ls y.2.2.1)) : W p l e R s m args below meth c H locs cells slots Q (F0 m pc ls st) := by
  obtain ⟨hx, hb, hml, hown, hts, -⟩ := hF
  have hd := u_okd hok rfl
  replace hst : v_lcmp rs pc L st h = some (.inl y) := hst
  unfold v_lcmp at hst
  split at hst
  · cases hst
    exact W.lcmp hx hb hd K
  · cases hst

theorem us_idiv (hF : u_Fix D cA base b Ls xs p R s m args meth c own bytes nL) (hLR : u_LR nL L ls) (hok : u_ok own bytes rt init pc (.idiv, rs) pl = true) (hst : ustep (.idiv, rs) (pc, L, st, h) = some (.inl y)) (K : W p l e R s m args below meth c H locs cells slots Q (F0 m y.1 ls y.2.2.1)) : W p l e R s m args below meth c H locs cells slots Q (F0 m pc ls st) := by
  obtain ⟨hx, hb, hml, hown, hts, -⟩ := hF
  have hd := u_okd hok rfl
  replace hst : v_idiv rs pc L st h = some (.inl y) := hst
  unfold v_idiv at hst
  split at hst
  · split at hst
    · cases hst
    · rename_i e1
      cases hst
      exact lv_idiv hx hb hd e1 K
  · cases hst

theorem us_irem (hF : u_Fix D cA base b Ls xs p R s m args meth c own bytes nL) (hLR : u_LR nL L ls) (hok : u_ok own bytes rt init pc (.irem, rs) pl = true) (hst : ustep (.irem, rs) (pc, L, st, h) = some (.inl y)) (K : W p l e R s m args below meth c H locs cells slots Q (F0 m y.1 ls y.2.2.1)) : W p l e R s m args below meth c H locs cells slots Q (F0 m pc ls st) := by
  obtain ⟨hx, hb, hml, hown, hts, -⟩ := hF
  have hd := u_okd hok rfl
  replace hst : v_irem rs pc L st h = some (.inl y) := hst
  unfold v_irem at hst
  split at hst
  · split at hst
    · cases hst
    · rename_i e1
      cases hst
      exact lv_irem hx hb hd e1 K
  · cases hst

theorem us_ldiv (hF : u_Fix D cA base b Ls xs p R s m args meth c own bytes nL) (hLR : u_LR nL L ls) (hok : u_ok own bytes rt init pc (.ldiv, rs) pl = true) (hst : ustep (.ldiv, rs) (pc, L, st, h) = some (.inl y)) (K : W p l e R s m args below meth c H locs cells slots Q (F0 m y.1 ls y.2.2.1)) : W p l e R s m args below meth c H locs cells slots Q (F0 m pc ls st) := by
  obtain ⟨hx, hb, hml, hown, hts, -⟩ := hF
  have hd := u_okd hok rfl
  replace hst : v_ldiv rs pc L st h = some (.inl y) := hst
  unfold v_ldiv at hst
  split at hst
  · split at hst
    · cases hst
    · rename_i e1
      cases hst
      exact lv_ldiv hx hb hd e1 K
  · cases hst

theorem us_lrem (hF : u_Fix D cA base b Ls xs p R s m args meth c own bytes nL) (hLR : u_LR nL L ls) (hok : u_ok own bytes rt init pc (.lrem, rs) pl = true) (hst : ustep (.lrem, rs) (pc, L, st, h) = some (.inl y)) (K : W p l e R s m args below meth c H locs cells slots Q (F0 m y.1 ls y.2.2.1)) : W p l e R s m args below meth c H locs cells slots Q (F0 m pc ls st) := by
  obtain ⟨hx, hb, hml, hown, hts, -⟩ := hF
  have hd := u_okd hok rfl
  replace hst : v_lrem rs pc L st h = some (.inl y) := hst
  unfold v_lrem at hst
  split at hst
  · split at hst
    · cases hst
    · rename_i e1
      cases hst
      exact lv_lrem hx hb hd e1 K
  · cases hst

theorem us_dup (hF : u_Fix D cA base b Ls xs p R s m args meth c own bytes nL) (hLR : u_LR nL L ls) (hok : u_ok own bytes rt init pc (.dup, rs) pl = true) (hst : ustep (.dup, rs) (pc, L, st, h) = some (.inl y)) (K : W p l e R s m args below meth c H locs cells slots Q (F0 m y.1 ls y.2.2.1)) : W p l e R s m args below meth c H locs cells slots Q (F0 m pc ls st) := by
  obtain ⟨hx, hb, hml, hown, hts, -⟩ := hF
  have hd := u_okd hok rfl
  replace hst : v_dup rs pc L st h = some (.inl y) := hst
  unfold v_dup at hst
  split at hst
  · split at hst
    · rename_i e1
      cases hst
      exact lv_dup hx hb hd e1 K
    · cases hst
  · cases hst

theorem us_pop (hF : u_Fix D cA base b Ls xs p R s m args meth c own bytes nL) (hLR : u_LR nL L ls) (hok : u_ok own bytes rt init pc (.pop, rs) pl = true) (hst : ustep (.pop, rs) (pc, L, st, h) = some (.inl y)) (K : W p l e R s m args below meth c H locs cells slots Q (F0 m y.1 ls y.2.2.1)) : W p l e R s m args below meth c H locs cells slots Q (F0 m pc ls st) := by
  obtain ⟨hx, hb, hml, hown, hts, -⟩ := hF
  have hd := u_okd hok rfl
  replace hst : v_pop rs pc L st h = some (.inl y) := hst
  unfold v_pop at hst
  split at hst
  · split at hst
    · rename_i e1
      cases hst
      exact lv_pop hx hb hd e1 K
    · cases hst
  · cases hst

theorem us_dup2 (hF : u_Fix D cA base b Ls xs p R s m args meth c own bytes nL) (hLR : u_LR nL L ls) (hok : u_ok own bytes rt init pc (.dup2, rs) pl = true) (hst : ustep (.dup2, rs) (pc, L, st, h) = some (.inl y)) (K : W p l e R s m args below meth c H locs cells slots Q (F0 m y.1 ls y.2.2.1)) : W p l e R s m args below meth c H locs cells slots Q (F0 m pc ls st) := by
  obtain ⟨hx, hb, hml, hown, hts, -⟩ := hF
  have hd := u_okd hok rfl
  replace hst : v_dup2 rs pc L st h = some (.inl y) := hst
  unfold v_dup2 at hst
  split at hst
  · cases hst
    exact lv_dup2_11 hx hb hd rfl rfl K
  · cases hst
    exact lv_dup2_2 hx hb hd rfl K
  · cases hst

theorem us_pop2 (hF : u_Fix D cA base b Ls xs p R s m args meth c own bytes nL) (hLR : u_LR nL L ls) (hok : u_ok own bytes rt init pc (.pop2, rs) pl = true) (hst : ustep (.pop2, rs) (pc, L, st, h) = some (.inl y)) (K : W p l e R s m args below meth c H locs cells slots Q (F0 m y.1 ls y.2.2.1)) : W p l e R s m args below meth c H locs cells slots Q (F0 m pc ls st) := by
  obtain ⟨hx, hb, hml, hown, hts, -⟩ := hF
  have hd := u_okd hok rfl
  replace hst : v_pop2 rs pc L st h = some (.inl y) := hst
  unfold v_pop2 at hst
  split at hst
  · cases hst
    exact lv_pop2_2 hx hb hd rfl K
  · cases hst

theorem us_if_icmp {cnd : ClassFile.Cond} {o : Int} (hF : u_Fix D cA base b Ls xs p R s m args meth c own bytes nL) (hLR : u_LR nL L ls) (hok : u_ok own bytes rt init pc (.if_icmp cnd o, rs) pl = true) (hst : ustep (.if_icmp cnd o, rs) (pc, L, st, h) = some (.inl y)) (K : W p l e R s m args below meth c H locs cells slots Q (F0 m y.1 ls y.2.2.1)) : W p l e R s m args below meth c H locs cells slots Q (F0 m pc ls st) := by
  obtain ⟨hx, hb, hml, hown, hts, -⟩ := hF
  have hd := u_okd hok rfl
  have ho := u_ok2 hok
  replace hst : v_if_icmp cnd rs pc L st h = some (.inl y) := hst
  unfold v_if_icmp at hst
  split at hst
  · have ht := of_decide_eq_true ho
    cases cnd with
    | eq =>
      simp only [u_if] at hst
      split at hst
      · rename_i e2
        cases hst
        exact lv_icmp_eq hx hb hd ht (fun _ => K) (fun q => absurd e2 q)
      · rename_i e2
        cases hst
        exact lv_icmp_eq hx hb hd ht (fun q => absurd q e2) (fun _ => K)
    | ne =>
      simp only [u_if] at hst
      split at hst
      · rename_i e2
        cases hst
        exact lv_icmp_ne hx hb hd ht (fun q => absurd e2 q) (fun _ => K)
      · rename_i e2
        cases hst
        exact lv_icmp_ne hx hb hd ht (fun _ => K) (fun q => absurd q e2)
    | lt =>
      simp only [u_if] at hst
      split at hst
      · rename_i e2
        cases hst
        exact lv_icmp_lt hx hb hd ht (fun _ => K) (fun q => absurd e2 q)
      · rename_i e2
        cases hst
        exact lv_icmp_lt hx hb hd ht (fun q => absurd q e2) (fun _ => K)
    | ge =>
      simp only [u_if] at hst
      split at hst
      · rename_i e2
        cases hst
        exact lv_icmp_ge hx hb hd ht (fun _ => K) (fun q => absurd e2 q)
      · rename_i e2
        cases hst
        exact lv_icmp_ge hx hb hd ht (fun q => absurd q e2) (fun _ => K)
    | gt =>
      simp only [u_if] at hst
      split at hst
      · rename_i e2
        cases hst
        exact lv_icmp_gt hx hb hd ht (fun _ => K) (fun q => absurd e2 q)
      · rename_i e2
        cases hst
        exact lv_icmp_gt hx hb hd ht (fun q => absurd q e2) (fun _ => K)
    | le =>
      simp only [u_if] at hst
      split at hst
      · rename_i e2
        cases hst
        exact lv_icmp_le hx hb hd ht (fun _ => K) (fun q => absurd e2 q)
      · rename_i e2
        cases hst
        exact lv_icmp_le hx hb hd ht (fun q => absurd q e2) (fun _ => K)
  · cases hst

theorem us_ifCond {cnd : ClassFile.Cond} {o : Int} (hF : u_Fix D cA base b Ls xs p R s m args meth c own bytes nL) (hLR : u_LR nL L ls) (hok : u_ok own bytes rt init pc (.ifCond cnd o, rs) pl = true) (hst : ustep (.ifCond cnd o, rs) (pc, L, st, h) = some (.inl y)) (K : W p l e R s m args below meth c H locs cells slots Q (F0 m y.1 ls y.2.2.1)) : W p l e R s m args below meth c H locs cells slots Q (F0 m pc ls st) := by
  obtain ⟨hx, hb, hml, hown, hts, -⟩ := hF
  have hd := u_okd hok rfl
  have ho := u_ok2 hok
  replace hst : v_ifCond cnd rs pc L st h = some (.inl y) := hst
  unfold v_ifCond at hst
  split at hst
  · have ht := of_decide_eq_true ho
    cases cnd with
    | eq =>
      simp only [u_if] at hst
      split at hst
      · rename_i e2
        cases hst
        exact lv_if_eq hx hb hd ht (fun _ => K) (fun q => absurd e2 q)
      · rename_i e2
        cases hst
        exact lv_if_eq hx hb hd ht (fun q => absurd q e2) (fun _ => K)
    | ne =>
      simp only [u_if] at hst
      split at hst
      · rename_i e2
        cases hst
        exact lv_if_ne hx hb hd ht (fun q => absurd e2 q) (fun _ => K)
      · rename_i e2
        cases hst
        exact lv_if_ne hx hb hd ht (fun _ => K) (fun q => absurd q e2)
    | lt =>
      simp only [u_if] at hst
      split at hst
      · rename_i e2
        cases hst
        exact lv_if_lt hx hb hd ht (fun _ => K) (fun q => absurd e2 q)
      · rename_i e2
        cases hst
        exact lv_if_lt hx hb hd ht (fun q => absurd q e2) (fun _ => K)
    | ge =>
      simp only [u_if] at hst
      split at hst
      · rename_i e2
        cases hst
        exact lv_if_ge hx hb hd ht (fun _ => K) (fun q => absurd e2 q)
      · rename_i e2
        cases hst
        exact lv_if_ge hx hb hd ht (fun q => absurd q e2) (fun _ => K)
    | gt =>
      simp only [u_if] at hst
      split at hst
      · rename_i e2
        cases hst
        exact lv_if_gt hx hb hd ht (fun _ => K) (fun q => absurd e2 q)
      · rename_i e2
        cases hst
        exact lv_if_gt hx hb hd ht (fun q => absurd q e2) (fun _ => K)
    | le =>
      simp only [u_if] at hst
      split at hst
      · rename_i e2
        cases hst
        exact lv_if_le hx hb hd ht (fun _ => K) (fun q => absurd e2 q)
      · rename_i e2
        cases hst
        exact lv_if_le hx hb hd ht (fun q => absurd q e2) (fun _ => K)
  · cases hst

theorem us_ifnull {o : Int} (hF : u_Fix D cA base b Ls xs p R s m args meth c own bytes nL) (hLR : u_LR nL L ls) (hok : u_ok own bytes rt init pc (.ifnull o, rs) pl = true) (hst : ustep (.ifnull o, rs) (pc, L, st, h) = some (.inl y)) (K : W p l e R s m args below meth c H locs cells slots Q (F0 m y.1 ls y.2.2.1)) : W p l e R s m args below meth c H locs cells slots Q (F0 m pc ls st) := by
  obtain ⟨hx, hb, hml, hown, hts, -⟩ := hF
  have hd := u_okd hok rfl
  have ho := u_ok2 hok
  replace hst : v_ifnull rs pc L st h = some (.inl y) := hst
  unfold v_ifnull at hst
  split at hst
  · cases hst
    exact lv_ifnullN hx hb hd (of_decide_eq_true ho) K
  · cases hst
    exact lv_ifnull hx hb hd K
  · cases hst

theorem us_ifnonnull {o : Int} (hF : u_Fix D cA base b Ls xs p R s m args meth c own bytes nL) (hLR : u_LR nL L ls) (hok : u_ok own bytes rt init pc (.ifnonnull o, rs) pl = true) (hst : ustep (.ifnonnull o, rs) (pc, L, st, h) = some (.inl y)) (K : W p l e R s m args below meth c H locs cells slots Q (F0 m y.1 ls y.2.2.1)) : W p l e R s m args below meth c H locs cells slots Q (F0 m pc ls st) := by
  obtain ⟨hx, hb, hml, hown, hts, -⟩ := hF
  have hd := u_okd hok rfl
  have ho := u_ok2 hok
  replace hst : v_ifnonnull rs pc L st h = some (.inl y) := hst
  unfold v_ifnonnull at hst
  split at hst
  · cases hst
    exact lv_ifnonnull hx hb hd (of_decide_eq_true ho) K
  · cases hst
    exact lv_ifnonnullN hx hb hd K
  · cases hst

theorem us_goto {o : Int} (hF : u_Fix D cA base b Ls xs p R s m args meth c own bytes nL) (hLR : u_LR nL L ls) (hok : u_ok own bytes rt init pc (.goto o, rs) pl = true) (hst : ustep (.goto o, rs) (pc, L, st, h) = some (.inl y)) (K : W p l e R s m args below meth c H locs cells slots Q (F0 m y.1 ls y.2.2.1)) : W p l e R s m args below meth c H locs cells slots Q (F0 m pc ls st) := by
  obtain ⟨hx, hb, hml, hown, hts, -⟩ := hF
  have hd := u_okd hok rfl
  have ho := u_ok2 hok
  replace hst : v_goto rs pc L st h = some (.inl y) := hst
  unfold v_goto at hst
  split at hst
  · cases hst
    exact lv_goto hx hb hd (of_decide_eq_true ho) K
  · cases hst

theorem us_tableswitch {d lo hi : Int} {offs : Array Int} (hF : u_Fix D cA base b Ls xs p R s m args meth c own bytes nL) (hLR : u_LR nL L ls) (hok : u_ok own bytes rt init pc (.tableswitch d lo hi offs, rs) pl = true) (hst : ustep (.tableswitch d lo hi offs, rs) (pc, L, st, h) = some (.inl y)) (K : W p l e R s m args below meth c H locs cells slots Q (F0 m y.1 ls y.2.2.1)) : W p l e R s m args below meth c H locs cells slots Q (F0 m pc ls st) := by
  obtain ⟨hx, hb, hml, hown, hts, -⟩ := hF
  obtain ⟨n, hd⟩ := u_oks hok
  have ho := u_ok2 hok
  replace hst : v_tableswitch lo hi rs pc L st h = some (.inl y) := hst
  unfold v_tableswitch at hst
  split at hst
  · rename_i t ts x2 r
    replace ho : (decide ((pc : Int) + d = (t : Int)) && decide (offs.toList.map (fun o => (pc : Int) + o) = ts.map (fun t : Nat => (t : Int)))) = true := ho
    simp only [Bool.and_eq_true, decide_eq_true_eq] at ho
    split at hst
    · rename_i e2
      cases hst
      exact lv_tableOut hx hb hd e2 ho.1 K
    · rename_i e2
      split at hst
      · rename_i u e3
        cases hst
        have h3 : (offs.toList.map (fun o => (pc : Int) + o))[(x2.toInt - lo).toNat]? = some (u : Int) := by
          rw [ho.2, List.getElem?_map, e3]; rfl
        rw [List.getElem?_map, Option.map_eq_some_iff] at h3
        obtain ⟨o, ho, h4⟩ := h3
        exact lv_tableIn hx hb hd (fun q => e2 (Or.inl q)) (fun q => e2 (Or.inr q)) (by rw [← Array.getElem?_toList]; exact ho) h4 K
      · cases hst
  · cases hst

theorem u_lks (d x : Int) (pc : Int) : ∀ (ps : List (Int × Int)), 0 ≤ pc + d → (∀ q ∈ ps, 0 ≤ pc + q.2) → 0 ≤ pc + Op.lookupswitch.offset ps d x
  | [], h1, _ => h1
  | (a, o) :: r, h1, h2 => by
    unfold Op.lookupswitch.offset
    split
    · exact h2 (a, o) List.mem_cons_self
    · exact u_lks d x pc r h1 (fun q hq => h2 q (List.mem_cons_of_mem _ hq))

theorem us_lookupswitch {d : Int} {ps : Array (Int × Int)} (hF : u_Fix D cA base b Ls xs p R s m args meth c own bytes nL) (hLR : u_LR nL L ls) (hok : u_ok own bytes rt init pc (.lookupswitch d ps, rs) pl = true) (hst : ustep (.lookupswitch d ps, rs) (pc, L, st, h) = some (.inl y)) (K : W p l e R s m args below meth c H locs cells slots Q (F0 m y.1 ls y.2.2.1)) : W p l e R s m args below meth c H locs cells slots Q (F0 m pc ls st) := by
  obtain ⟨hx, hb, hml, hown, hts, -⟩ := hF
  obtain ⟨n, hd⟩ := u_oks hok
  have ho := u_ok2 hok
  replace ho : ok_lsw pc d ps = true := ho
  unfold ok_lsw at ho
  rw [Bool.and_eq_true, Bool.and_eq_true] at ho
  replace hst : v_lookupswitch d ps rs pc L st h = some (.inl y) := hst
  unfold v_lookupswitch at hst
  split at hst
  · rename_i x2 r
    cases hst
    have h1 := of_decide_eq_true ho.1.2
    have h2 : ∀ q ∈ ps.toList, 0 ≤ (pc : Int) + q.2 := fun q hq => of_decide_eq_true (List.all_eq_true.mp ho.2 q hq)
    have h3 := u_lks d x2.toInt pc ps.toList h1 h2
    exact lv_lookup hx hb hd ho.1.1 rfl (by omega) K
  · cases hst

end Sim1
