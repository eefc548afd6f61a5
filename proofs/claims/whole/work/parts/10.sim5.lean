/-! ===== calls; a run of the small machine is the machine's; methods by their runs ===== -/
/-- a method: its name, code, locals, answer, kind (0 of an object, 1 static, 2 a constructor, 3 a constructor that a nest mate alone calls), number of its class, arguments -/
abbrev UM : Type := MethodName × ByteArray × Nat × Option FieldType × Nat × Nat × Nat
def m_rec (M : UM) : Prop := ∃ q : vw_C, vwCl[M.2.2.2.2.2.1]? = some q ∧ q.1 = M.1.cls
def m_ok (M : UM) : Prop := plainName M.1.cls = true ∧ (M.1.cls ≠ "java/lang/invoke/MethodHandle" ∧ M.1.cls ≠ "java/lang/invoke/VarHandle" ∧ (parseMethodDescriptor M.1.desc).map (fun d => d.parameters.length) = some M.2.2.2.2.2.2) ∧ Cond.code M.1 M.2.1 M.2.2.1 M.2.2.2.1 ∈ lw_T ∧ Cond.initialized M.1.cls ∈ lw_T ∧ M.2.2.1 ≤ 40 ∧
  ((M.2.2.2.2.1 = 0 ∧ Cond.instanceMethod M.1 ∈ lw_T ∧ Cond.selects M.1.cls M.1 M.1 ∈ lw_T ∧ m_rec M) ∨ (M.2.2.2.2.1 = 1 ∧ Cond.static M.1 ∈ lw_T) ∨ ((M.2.2.2.2.1 = 2 ∨ M.2.2.2.2.1 = 3) ∧ Cond.instanceMethod M.1 ∈ lw_T ∧ M.1.name = "<init>" ∧ M.2.2.2.1 = none))
/-- the callee's name is linked at the call -/
def c_ok (mt : Nat → UM) (own : String) (i : UI) : Prop := match i.1, i.2 with
  | .invokevirtual x, [mi, n, ci] => (mt mi).2.2.2.2 = (0, ci, n) ∧ Cond.methodLink own x (mt mi).1 ∈ lw_T
  | .invokespecial x, [mi, n, _] => ((mt mi).2.2.2.2.1 = 2 ∧ (mt mi).2.2.2.2.2.2 = n ∧ Cond.methodLink own x (mt mi).1 ∈ lw_T) ∨ ((mt mi).2.2.2.2.1 = 3 ∧ (mt mi).2.2.2.2.2.2 = n ∧ own = "HeadCounts" ∧ x = 76 ∧ (mt mi).1 = ⟨"HeadCounts$Scene", "<init>", "()V"⟩)
  | .invokestatic x, [mi, n] => (mt mi).2.2.2.2.1 = 1 ∧ (mt mi).2.2.2.2.2.2 = n ∧ Cond.methodLink own x (mt mi).1 ∈ lw_T
  | _, _ => True
def u_Pc (D : va_G) (cA : Nat → ClassId) (base b Ls : Nat) (xs : Nat → Int32) (as : List Value) (h : UH) : Array Value → State → Prop := fun v U => v = as.toArray ∧ U.heap.size = h.2.1 ∧ va_P D vwCl (u_w base cA h) U.heap ∧ va_K D vwCl (u_tys cA) U ∧ u_X base b Ls xs U U.heap ∧ u_AO U ∧ base ≤ h.2.1 ∧ u_out base b Ls xs h
def u_Qc (D : va_G) (cA : Nat → ClassId) (base b Ls : Nat) (xs : Nat → Int32) (res : UR) : Array Value → State → Outcome → State → Prop := fun _ st oc t => oc = .returned res.1 ∧ t.heap.size = res.2.2.1 ∧ va_P D vwCl (u_w base cA res.2) t.heap ∧ u_out base b Ls xs res.2 ∧ va_F (fun q => base ≤ q) st t
def u_rm (d : Nat) (h h' : UH) : Room := { frames := d + 8, cells := h'.2.1 - h.2.1, slots := h'.2.2 - h.2.2, locals := 60 * (d + 8) }
def m_ws (M : UM) : List Cond := Cond.code M.1 M.2.1 M.2.2.1 M.2.2.2.1 :: lw_T
/-- the contract that a run gives -/
def u_Met (D : va_G) (cA : Nat → ClassId) (base b Ls : Nat) (xs : Nat → Int32) (l : Launch) (d : Nat) (M : UM) (as : List Value) (h : UH) (res : UR) : Prop :=
  Met l M.1 (m_ws M) (u_rm d h res.2) (u_Pc D cA base b Ls xs as h) (u_Qc D cA base b Ls xs res) (res.2.2.1 - h.2.1) (res.2.2.2 - h.2.2) (fun q => base ≤ q)
theorem m_good {M : UM} (h : Cond.code M.1 M.2.1 M.2.2.1 M.2.2.2.1 ∈ lw_T) : GoodIn lw_T (m_ws M) := by
  intro w hw
  rcases List.mem_cons.mp hw with rfl | q
  · exact ⟨h, good_of_word (List.mem_filter.mp h).2⟩
  · exact ⟨q, good_of_word (List.mem_filter.mp q).2⟩
theorem u_AO.moved {u U : State} (hW : u.WarmedH U.vm) (h : u_AO u) : u_AO U := ⟨h.1.moved hW.alike, h.2.1.moved hW.alike, h.2.2.1.moved hW.alike, h.2.2.2.warmM hW⟩
theorem u_AO.same {u U : State} (hv : u.vm = U.vm) (h : u_AO u) : u_AO U := ⟨h.1.moved (by rw [hv]; exact Vm.Alike.refl _), h.2.1.moved (by rw [hv]; exact Vm.Alike.refl _), h.2.2.1.moved (by rw [hv]; exact Vm.Alike.refl _), h.2.2.2.same rfl hv⟩
theorem u_blind {D : va_G} {cA : Nat → ClassId} {base b Ls : Nat} {xs : Nat → Int32} {as : List Value} {h : UH} : FrameBlind (u_Pc D cA base b Ls xs as h) := by
  intro a U g mk q
  obtain ⟨q0, q1, q2, q3, q4, q5, q6⟩ := q
  have hvm : (U.calling g mk a).vm = U.vm := rfl
  exact ⟨q0, q1, q2, va_K.moved (u := U) (U := U.calling g mk a) (Vm.Alike.refl U.vm) q3, ⟨va_X.moved (u := U) (U := U.calling g mk a) (Vm.Alike.refl U.vm) q4.1, u_Tx.same (u := U) (U := U.calling g mk a) hvm q4.2⟩, u_AO.same (u := U) hvm.symm q5, q6⟩
section Sim5
variable {D : va_G} {cA : Nat → ClassId} {base b Ls : Nat} {xs : Nat → Int32} {p : Program} {l : Launch} {e : Env} {R : Room} {s : State} {m : MethodId} {args : Array Value} {below : List Frame} {meth : Method} {c : Code} {own : String} {bytes : ByteArray} {nL : Nat} {rt : Option FieldType} {init : Bool} {Q : State → Prop}
variable {h0 h : UH} {H : Heap} {locs : List Loc} {cells slots : Nat} {pc pl : Nat} {L : List (Option Value)} {ls : Array Slot} {st : List Value} {y : UC} {rs : List Nat}
/-- sizes, where cells are counted exactly -/
theorem u_size (hF : u_Fix D cA base b Ls xs p R s m args meth c own bytes nL) (hI : u_Inv D cA base b Ls xs s h0 H locs cells slots h) (hz : H.size ≤ s.heap.size + cells) : H.size = h.2.1 := by
  obtain ⟨-, -, -, -, -, -, -, -, -, hbs, -, -⟩ := hF
  obtain ⟨hP, hS, e0, e1, e2, hO⟩ := hI
  have h1 : H.size ≤ h.2.1 := by omega
  rcases Nat.eq_or_lt_of_le (Nat.zero_le cells) with q | q
  · have := hS.1; omega
  · obtain ⟨k0, hk⟩ := u_w_at (cA := cA) (base := base) (h := h) (a := h.2.1 - 1) (by omega) (by omega)
    have := (hP _ _ hk).lt
    dsimp only at this
    omega
theorem u_pre (hF : u_Fix D cA base b Ls xs p R s m args meth c own bytes nL) (hI : u_Inv D cA base b Ls xs s h0 H locs cells slots h) (hsz : H.size = h.2.1) (as : List Value) : ∀ U : State, U.heap = H → s.WarmedH U.vm → u_Pc D cA base b Ls xs as h as.toArray U := by
  intro U hU hW
  obtain ⟨hx, hb, hml, hown, hts, hK, hX, hAO, hbb, hbs, hfr, hlo⟩ := hF
  obtain ⟨hP, hS, e0, e1, e2, hO⟩ := hI
  refine ⟨rfl, by rw [hU]; exact hsz, by rw [hU]; exact hP, va_K.moved hW.alike hK, ?_, u_AO.moved hW hAO, by omega, hO⟩
  have hX2 := va_X.moved hW.alike hX.1
  rw [hU]
  exact ⟨hX2.kept (hS.2.1 b (by omega) (by omega)), (u_Tx.warm hW hX.2).kept hS.2.1⟩
/-- behind a call -/
theorem u_back {mc ms : Nat} {rest st0 : List Value} {a : Array Value} {res : UR} (hF : u_Fix D cA base b Ls xs p R s m args meth c own bytes nL) (hI : u_Inv D cA base b Ls xs s h0 H locs cells slots h) (hsz : H.size = h.2.1) (hmc : h.2.1 + mc = res.2.2.1) (hms : h.2.2 + ms = res.2.2.2)
    (hr : va_Run p l e R s m args below meth c H locs cells slots mc ms (F0 m pc ls st0) rest (u_Qc D cA base b Ls xs res a) (fun q => base ≤ q))
    (K : ∀ (H' : Heap) (locs' : List Loc), u_Inv D cA base b Ls xs s h0 H' locs' (cells + mc) (slots + ms) res.2 → W p l e R s m args below meth c H' locs' (cells + mc) (slots + ms) Q (F0 m (pc + 3) ls (res.1.toList ++ rest))) : W p l e R s m args below meth c H locs cells slots Q (F0 m pc ls st0) := by
  obtain ⟨hP, hS, e0, e1, e2, hO⟩ := hI
  intro T hT X
  obtain ⟨v, st₀, t, T', Lc, g0, X', hL, f1, f2, ⟨q1, q2, q3, q4, q5⟩, go⟩ := hr T hT X
  have hv : v = res.1 := by cases q1; rfl
  subst hv
  obtain ⟨z1, z2⟩ := q5
  rw [g0] at z1 z2
  obtain ⟨t2, a1, b1⟩ := K T'.heap (locs ++ Lc) ⟨by rw [f1]; exact q3, ⟨Nat.le_trans hS.1 (by rw [f1]; exact z1), fun q w1 w2 => by rw [f1, z2 q (Nat.lt_of_lt_of_le w1 hS.1) w2]; exact hS.2.1 q w1 w2, fun q hq => by
      rcases List.mem_append.mp hq with w | w
      · exact hS.2.2 q w
      · exact hL q w⟩, e0, by omega, by omega, q4⟩ T' rfl X'
  exact ⟨t2, go t2 a1, b1⟩
end Sim5
