/-! ===== stretches of a method's code, by the machine ===== -/
def u_WE (D : va_G) (cA : Nat → ClassId) (base b Ls : Nat) (xs : Nat → Int32) (p : Program) (l : Launch) (e : Env) (R : Room) (s : State) (m : MethodId) (args : Array Value) (below : List Frame) (meth : Method) (c : Code) (nL : Nat) (Q : State → Prop) (h0 : UH) (x : UC) : Prop := ∀ (H : Heap) (locs : List Loc) (cells slots : Nat) (ls : Array Slot), u_Inv D cA base b Ls xs s h0 H locs cells slots x.2.2.2 → u_LR nL x.2.1 ls → W p l e R s m args below meth c H locs cells slots Q (F0 m x.1 ls x.2.2.1)
theorem usegs_mono : ∀ (l : List (Nat × UI)) {x y : UC}, usegs l x = some y → x.2.2.2.2.1 ≤ y.2.2.2.2.1 ∧ x.2.2.2.2.2 ≤ y.2.2.2.2.2
  | [], x, y, h => by cases h; exact ⟨Nat.le_refl _, Nat.le_refl _⟩
  | (p, ins, rs) :: r, (pc, L, st, hh), y, h => by
    unfold usegs at h
    split at h
    · split at h
      · rename_i z hz
        have m1 := u_stm hz
        have m2 := usegs_mono r h
        exact ⟨Nat.le_trans m1.1 m2.1, Nat.le_trans m1.2 m2.2⟩
      · cases h
    · cases h
/-- a row of an object (the name cA is taken by a variable there) -/
def w_row (w : Wd) (ci k a : Nat) : Nat → Int32 := cA (wg ci w) k a
def w_ref (w : Wd) (ci k a : Nat) : Nat := cR (wg ci w) k a
section We
variable {D : va_G} {cA : Nat → ClassId} {base b Ls : Nat} {xs : Nat → Int32} {p : Program} {l : Launch} {e : Env} {R : Room} {s : State} {m : MethodId} {args : Array Value} {below : List Frame} {meth : Method} {c : Code} {own : String} {bytes : ByteArray} {nL : Nat} {rt : Option FieldType} {init : Bool} {Q : State → Prop} {h0 : UH} {kl : List (Nat × UI × Nat)}
theorem we_step {i : UI} {x y : UC} (hF : u_Fix D cA base b Ls xs p R s m args meth c own bytes nL) (hin : init = true → meth.name = "<init>") (hcode : ∀ pc i, u_at kl pc = some i → ∃ pl, u_ok own bytes rt init pc i pl = true) (hc : u_at kl x.1 = some i) (hs : ustep i x = some (.inl y)) (hy : y.2.2.2.2.1 ≤ h0.2.1 + R.cells ∧ y.2.2.2.2.2 ≤ h0.2.2 + R.slots) (k : u_WE D cA base b Ls xs p l e R s m args below meth c nL Q h0 y) : u_WE D cA base b Ls xs p l e R s m args below meth c nL Q h0 x := by
  intro H locs cells slots ls hI hLR
  obtain ⟨ins, rs⟩ := i
  obtain ⟨pc, L, st, h⟩ := x
  obtain ⟨pl, hok⟩ := hcode _ _ hc
  exact u_one hF hin hI hLR hok hs hy (fun ls' H' locs' cells' slots' q1 q2 => k H' locs' cells' slots' ls' q2 q1)
theorem we_segs (hF : u_Fix D cA base b Ls xs p R s m args meth c own bytes nL) (hin : init = true → meth.name = "<init>") (hcode : ∀ pc i, u_at kl pc = some i → ∃ pl, u_ok own bytes rt init pc i pl = true) : ∀ (li : List (Nat × UI)) {x y : UC}, u_sub li kl = true → usegs li x = some y → (y.2.2.2.2.1 ≤ h0.2.1 + R.cells ∧ y.2.2.2.2.2 ≤ h0.2.2 + R.slots) → u_WE D cA base b Ls xs p l e R s m args below meth c nL Q h0 y → u_WE D cA base b Ls xs p l e R s m args below meth c nL Q h0 x
  | [], x, y, _, hs, _, k => by cases hs; exact k
  | (p', i) :: r, (pc, L, st, h), y, hu, hs, hy, k => by
    unfold u_sub at hu
    rw [List.all_cons, Bool.and_eq_true] at hu
    have hc := of_decide_eq_true hu.1
    unfold usegs at hs
    split at hs
    · rename_i e1
      dsimp only at e1 hc
      subst e1
      split at hs
      · rename_i z hz
        have m2 := usegs_mono r hs
        exact we_step hF hin hcode hc hz ⟨Nat.le_trans m2.1 hy.1, Nat.le_trans m2.2 hy.2⟩ (we_segs hF hin hcode r hu.2 hs hy k)
      · cases hs
    · cases hs
variable {pc : Nat} {L : List (Option Value)} {r : List Value} {h : UH}
theorem we_ic_ge {t : Nat} {o : Int} {x y : Int32} (hF : u_Fix D cA base b Ls xs p R s m args meth c own bytes nL) (hin : init = true → meth.name = "<init>") (hcode : ∀ pc i, u_at kl pc = some i → ∃ pl, u_ok own bytes rt init pc i pl = true) (hh : h.2.1 ≤ h0.2.1 + R.cells ∧ h.2.2 ≤ h0.2.2 + R.slots) (hc : u_at kl pc = some (.if_icmp .ge o, [t])) (k1 : y ≤ x → u_WE D cA base b Ls xs p l e R s m args below meth c nL Q h0 (t, L, r, h)) (k2 : ¬ y ≤ x → u_WE D cA base b Ls xs p l e R s m args below meth c nL Q h0 (pc + 3, L, r, h)) : u_WE D cA base b Ls xs p l e R s m args below meth c nL Q h0 (pc, L, .int y :: .int x :: r, h) := by
  by_cases g : y ≤ x
  · exact we_step hF hin hcode hc (show (if y ≤ x then some (.inl (t, L, r, h)) else some (.inl (pc + 3, L, r, h)) : UO) = _ by rw [if_pos g]) hh (k1 g)
  · exact we_step hF hin hcode hc (show (if y ≤ x then some (.inl (t, L, r, h)) else some (.inl (pc + 3, L, r, h)) : UO) = _ by rw [if_neg g]) hh (k2 g)
theorem we_ic_ne {t : Nat} {o : Int} {x y : Int32} (hF : u_Fix D cA base b Ls xs p R s m args meth c own bytes nL) (hin : init = true → meth.name = "<init>") (hcode : ∀ pc i, u_at kl pc = some i → ∃ pl, u_ok own bytes rt init pc i pl = true) (hh : h.2.1 ≤ h0.2.1 + R.cells ∧ h.2.2 ≤ h0.2.2 + R.slots) (hc : u_at kl pc = some (.if_icmp .ne o, [t])) (k1 : x = y → u_WE D cA base b Ls xs p l e R s m args below meth c nL Q h0 (pc + 3, L, r, h)) (k2 : ¬ x = y → u_WE D cA base b Ls xs p l e R s m args below meth c nL Q h0 (t, L, r, h)) : u_WE D cA base b Ls xs p l e R s m args below meth c nL Q h0 (pc, L, .int y :: .int x :: r, h) := by
  by_cases g : x = y
  · exact we_step hF hin hcode hc (show (if x = y then some (.inl (pc + 3, L, r, h)) else some (.inl (t, L, r, h)) : UO) = _ by rw [if_pos g]) hh (k1 g)
  · exact we_step hF hin hcode hc (show (if x = y then some (.inl (pc + 3, L, r, h)) else some (.inl (t, L, r, h)) : UO) = _ by rw [if_neg g]) hh (k2 g)
theorem we_if_lt {t : Nat} {o : Int} {x : Int32} (hF : u_Fix D cA base b Ls xs p R s m args meth c own bytes nL) (hin : init = true → meth.name = "<init>") (hcode : ∀ pc i, u_at kl pc = some i → ∃ pl, u_ok own bytes rt init pc i pl = true) (hh : h.2.1 ≤ h0.2.1 + R.cells ∧ h.2.2 ≤ h0.2.2 + R.slots) (hc : u_at kl pc = some (.ifCond .lt o, [t])) (k1 : x < 0 → u_WE D cA base b Ls xs p l e R s m args below meth c nL Q h0 (t, L, r, h)) (k2 : ¬ x < 0 → u_WE D cA base b Ls xs p l e R s m args below meth c nL Q h0 (pc + 3, L, r, h)) : u_WE D cA base b Ls xs p l e R s m args below meth c nL Q h0 (pc, L, .int x :: r, h) := by
  by_cases g : x < 0
  · exact we_step hF hin hcode hc (show (if x < 0 then some (.inl (t, L, r, h)) else some (.inl (pc + 3, L, r, h)) : UO) = _ by rw [if_pos g]) hh (k1 g)
  · exact we_step hF hin hcode hc (show (if x < 0 then some (.inl (t, L, r, h)) else some (.inl (pc + 3, L, r, h)) : UO) = _ by rw [if_neg g]) hh (k2 g)
theorem we_get {x ci k a : Nat} {v : Value} {w : Wd} {d : Ad} (hF : u_Fix D cA base b Ls xs p R s m args meth c own bytes nL) (hin : init = true → meth.name = "<init>") (hcode : ∀ pc i, u_at kl pc = some i → ∃ pl, u_ok own bytes rt init pc i pl = true) (hh : h.2.1 ≤ h0.2.1 + R.cells ∧ h.2.2 ≤ h0.2.2 + R.slots) (hc : u_at kl pc = some (.getfield x, [ci, k])) (hW : HW w d h) (hk : aK d a = (0, ci, 0)) (hn : k < nsl ci) (hv : fval w d ci k a = v) (kk : u_WE D cA base b Ls xs p l e R s m args below meth c nL Q h0 (pc + 3, L, v :: r, h)) : u_WE D cA base b Ls xs p l e R s m args below meth c nL Q h0 (pc, L, .ref a :: r, h) := by
  refine we_step hF hin hcode hc ?_ hh kk
  show (match u_gf ci k h a with | some v => some (.inl (pc + 3, L, v :: r, h)) | none => none : UO) = _
  have : u_gf ci k h a = some v := by
    unfold u_gf
    rw [hw_obj hW hk]
    dsimp only
    rw [if_pos rfl, flds_get hn, hv]
  rw [this]
theorem we_bald {ci k a n : Nat} {i v : Int32} {w : Wd} {d : Ad} (hF : u_Fix D cA base b Ls xs p R s m args meth c own bytes nL) (hin : init = true → meth.name = "<init>") (hcode : ∀ pc i, u_at kl pc = some i → ∃ pl, u_ok own bytes rt init pc i pl = true) (hh : h.2.1 ≤ h0.2.1 + R.cells ∧ h.2.2 ≤ h0.2.2 + R.slots) (hc : u_at kl pc = some (.baload, [])) (hW : HW w d h) (hk : aK d a = (0, ci, 0)) (hs : sd ci k = (3, 0, n)) (hn : k < nsl ci) (hv : ald (w_row w ci k a) n i = some v) (kk : u_WE D cA base b Ls xs p l e R s m args below meth c nL Q h0 (pc + 1, L, .int v :: r, h)) : u_WE D cA base b Ls xs p l e R s m args below meth c nL Q h0 (pc, L, .int i :: .ref (aP d ci k a) :: r, h) := by
  obtain ⟨h1, h2⟩ := ald_some hv
  refine we_step hF hin hcode hc ?_ hh kk
  show (match u_ald 0 h (aP d ci k a) i with | some v => some (.inl (pc + 1, L, v :: r, h)) | none => none : UO) = _
  have : u_ald 0 h (aP d ci k a) i = some (.int v) := by
    unfold u_ald
    rw [(hw_arr hW hk hs hn).1]
    simp only [arrc]
    rw [if_neg h1, ← h2]; rfl
  rw [this]
/-- a constant text -/
theorem we_ldc {x q : Nat} {tx : String} {st : List Value} (hF : u_Fix D cA base b Ls xs p R s m args meth c own bytes nL) (hR : vk_R own x tx q s) (hd : decode bytes pc = .ok (.ldc x, 2)) (k : u_WE D cA base b Ls xs p l e R s m args below meth c nL Q h0 (pc + 2, L, .ref q :: st, h)) : u_WE D cA base b Ls xs p l e R s m args below meth c nL Q h0 (pc, L, st, h) := fun H locs cells slots ls hI hLR => va_ldcS hF.1 hF.2.1 hF.2.2.2.1 hR hd (k H locs cells slots ls hI hLR)
end We
