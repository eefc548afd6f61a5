/-! ===== rows over the world in fields ===== -/
def ald (f : Nat → Int32) (n : Nat) (i : Int32) : Option Int32 := if i < 0 ∨ n ≤ i.toNatClampNeg then none else some (f i.toNatClampNeg)
def ldl (f : Nat → Int64) (n : Nat) (i : Int32) : Option Int64 := if i < 0 ∨ n ≤ i.toNatClampNeg then none else some (f i.toNatClampNeg)
def ldq (f : Nat → Option Nat) (n : Nat) (i : Int32) : Option (Option Nat) := if i < 0 ∨ n ≤ i.toNatClampNeg then none else some (f i.toNatClampNeg)
def ast (c : Cl) (k a n : Nat) (i x : Int32) : Option Cl := if i < 0 ∨ n ≤ i.toNatClampNeg then none else some (sA c k a (upd (cA c k a) i.toNatClampNeg x))
def stl (c : Cl) (k a n : Nat) (i : Int32) (x : Int64) : Option Cl := if i < 0 ∨ n ≤ i.toNatClampNeg then none else some (sB c k a (vp_updL (cB c k a) i.toNatClampNeg x))
def stq (c : Cl) (k a n : Nat) (i : Int32) (x : Nat) : Option Cl := if i < 0 ∨ n ≤ i.toNatClampNeg then none else some (sQ c k a (va_up (cQ c k a) i.toNatClampNeg (some x)))
def cpi (c0 c : Cl) (k0 a0 n0 k a n : Nat) (sp dp z : Int32) : Option Cl := if sp < 0 ∨ dp < 0 ∨ z < 0 ∨ ¬ (sp.toNatClampNeg + z.toNatClampNeg ≤ n0) ∨ ¬ (dp.toNatClampNeg + z.toNatClampNeg ≤ n) then none else some (sA c k a (va_cpy (cA c0 k0 a0) (cA c k a) sp.toNatClampNeg dp.toNatClampNeg z.toNatClampNeg))
def idv (x y : Int32) : Option Int32 := if y = 0 then none else some (x / y)
def irm (x y : Int32) : Option Int32 := if y = 0 then none else some (x - x / y * y)
def ldv (x y : Int64) : Option Int64 := if y = 0 then none else some (x / y)
def lrm (x y : Int64) : Option Int64 := if y = 0 then none else some (x - x / y * y)
theorem ob_some {α β : Type} {x : Option α} {f : α → Option β} {r : β} (h : (x >>= f) = some r) : ∃ v, x = some v ∧ f v = some r := Option.bind_eq_some_iff.mp h
theorem wg_ws {c : Nat} (w : Wd) (x : Cl) (hc : c < 14) : wg c (ws c w x) = x := by
  rcases (show c = 0 ∨ c = 1 ∨ c = 2 ∨ c = 3 ∨ c = 4 ∨ c = 5 ∨ c = 6 ∨ c = 7 ∨ c = 8 ∨ c = 9 ∨ c = 10 ∨ c = 11 ∨ c = 12 ∨ c = 13 by omega) with rfl | rfl | rfl | rfl | rfl | rfl | rfl | rfl | rfl | rfl | rfl | rfl | rfl | rfl <;> rfl
theorem wg_ne {c c' : Nat} (w : Wd) (x : Cl) (hc : c < 14) (hc' : c' < 14) (hn : c' ≠ c) : wg c' (ws c w x) = wg c' w := by
  rcases (show c = 0 ∨ c = 1 ∨ c = 2 ∨ c = 3 ∨ c = 4 ∨ c = 5 ∨ c = 6 ∨ c = 7 ∨ c = 8 ∨ c = 9 ∨ c = 10 ∨ c = 11 ∨ c = 12 ∨ c = 13 by omega) with rfl | rfl | rfl | rfl | rfl | rfl | rfl | rfl | rfl | rfl | rfl | rfl | rfl | rfl <;>
  rcases (show c' = 0 ∨ c' = 1 ∨ c' = 2 ∨ c' = 3 ∨ c' = 4 ∨ c' = 5 ∨ c' = 6 ∨ c' = 7 ∨ c' = 8 ∨ c' = 9 ∨ c' = 10 ∨ c' = 11 ∨ c' = 12 ∨ c' = 13 by omega) with rfl | rfl | rfl | rfl | rfl | rfl | rfl | rfl | rfl | rfl | rfl | rfl | rfl | rfl <;> first | rfl | exact absurd rfl hn
section Rows
variable {call : Nat → List Value → UH → UR → Prop} {code : Nat → Option UI} {pc : Nat} {L : List (Option Value)} {r : List Value} {h : UH} {res : UR → Prop} {w : Wd} {d : Ad}
theorem hw_obj (hW : HW w d h) {a c : Nat} (hk : aK d a = (0, c, 0)) : h.1 a = .inr (c, flds w d c a) := by
  rw [hW.1 a]; unfold cellOf; rw [hk]; rfl
theorem hw_lt (hW : HW w d h) {a c : Nat} (hk : aK d a = (0, c, 0)) : c < 13 := (hW.2.2.2.2.1 a c 0 hk).2
theorem hw_arr (hW : HW w d h) {a c k t n : Nat} (hk : aK d a = (0, c, 0)) (hs : sd c k = (3, t, n)) (hn : k < nsl c) : h.1 (aP d c k a) = arrc (wg c w) t n k a ∧ aK d (aP d c k a) = (1, c, k) ∧ aO d (aP d c k a) = a := by
  have hf := hW.2.2.2.1 a c hk k hn
  unfold wfs at hf
  rw [hs] at hf
  refine ⟨?_, hf.1, hf.2.1⟩
  rw [hW.1]; unfold cellOf; rw [hf.1]
  show arrc (wg c w) (sd c k).2.1 (sd c k).2.2 k (aO d (aP d c k a)) = _
  rw [hs, hf.2.1]
theorem hw_free (hW : HW w d h) {q t : Nat} (hk : aK d q = (2, t, 0)) : h.1 q = arrc (wg 13 w) t (aN d q) 0 q := by
  rw [hW.1]; unfold cellOf; rw [hk]; rfl
theorem flds_get {c k a : Nat} (hn : k < nsl c) : (flds w d c a)[k]? = some (fval w d c k a) := by
  unfold flds
  rw [List.getElem?_map, List.getElem?_range hn]
  rfl
theorem en_get {x c k a : Nat} {v : Value} (hc : code pc = some (.getfield x, [c, k])) (hW : HW w d h) (hk : aK d a = (0, c, 0)) (hn : k < nsl c) (hv : fval w d c k a = v) (kk : Ends call code (pc + 3, L, v :: r, h) res) : Ends call code (pc, L, .ref a :: r, h) res := by
  refine en_step hc ?_ kk
  show (match u_gf c k h a with | some v => some (.inl (pc + 3, L, v :: r, h)) | none => none : UO) = _
  have : u_gf c k h a = some v := by
    unfold u_gf
    rw [hw_obj hW hk]
    dsimp only
    rw [if_pos rfl, flds_get hn, hv]
  rw [this]
theorem wf_obj (hW : HW w d h) {a c k x n : Nat} (hk : aK d a = (0, c, 0)) (hn : k < nsl c) (hs : sd c k = (2, x, n)) : aK d (cR (wg c w) k a) = (0, x, 0) := by
  have hf := hW.2.2.2.1 a c hk k hn
  unfold wfs at hf; rw [hs] at hf; exact hf
theorem wf_free (hW : HW w d h) {a c k x n : Nat} (hk : aK d a = (0, c, 0)) (hn : k < nsl c) (hs : sd c k = (4, x, n)) : aK d (cR (wg c w) k a) = (2, x, 0) := by
  have hf := hW.2.2.2.1 a c hk k hn
  unfold wfs at hf; rw [hs] at hf; exact hf
theorem wf_tape (hW : HW w d h) {a c k x n : Nat} (hk : aK d a = (0, c, 0)) (hn : k < nsl c) (hs : sd c k = (5, x, n)) : aK d (cR (wg c w) k a) = (0, 11, 0) := by
  have hf := hW.2.2.2.1 a c hk k hn
  unfold wfs at hf; rw [hs] at hf; exact hf
theorem wf_elem (hW : HW w d h) {a c k t n j q : Nat} (hk : aK d a = (0, c, 0)) (hn : k < nsl c) (hs : sd c k = (3, t, n)) (ht : 3 < t) (hq : cQ (wg c w) k a j = some q) : aK d q = (0, u_ocl t, 0) := by
  have hf := hW.2.2.2.1 a c hk k hn
  unfold wfs at hf; rw [hs] at hf; exact hf.2.2 ht j q hq
theorem ald_some {f : Nat → Int32} {n : Nat} {i v : Int32} (h : ald f n i = some v) : ¬ (i < 0 ∨ n ≤ i.toNatClampNeg) ∧ f i.toNatClampNeg = v := by
  unfold ald at h
  split at h
  · cases h
  · rename_i g; cases h; exact ⟨g, rfl⟩
theorem ldl_some {f : Nat → Int64} {n : Nat} {i : Int32} {v : Int64} (h : ldl f n i = some v) : ¬ (i < 0 ∨ n ≤ i.toNatClampNeg) ∧ f i.toNatClampNeg = v := by
  unfold ldl at h
  split at h
  · cases h
  · rename_i g; cases h; exact ⟨g, rfl⟩
theorem ldq_some {f : Nat → Option Nat} {n : Nat} {i : Int32} {v : Option Nat} (h : ldq f n i = some v) : ¬ (i < 0 ∨ n ≤ i.toNatClampNeg) ∧ f i.toNatClampNeg = v := by
  unfold ldq at h
  split at h
  · cases h
  · rename_i g; cases h; exact ⟨g, rfl⟩
theorem en_al0 {ins : Instr} {q : Nat} {i : Int32} {v : Value} {m : Nat} (hc : code pc = some (ins, [])) (hi : ∀ x : UC, ustep (ins, []) x = u_al m x.1 x.2.1 x.2.2.1 x.2.2.2) (hv : u_ald m h q i = some v) (kk : Ends call code (pc + 1, L, v :: r, h) res) : Ends call code (pc, L, .int i :: .ref q :: r, h) res := by
  refine en_step hc ?_ kk
  rw [hi]
  show (match u_ald m h q i with | some v => some (.inl (pc + 1, L, v :: r, h)) | none => none : UO) = _
  rw [hv]
theorem en_iald {c k a n : Nat} {i v : Int32} (hc : code pc = some (.iaload, [])) (hW : HW w d h) (hk : aK d a = (0, c, 0)) (hs : sd c k = (3, 1, n)) (hn : k < nsl c) (hv : ald (cA (wg c w) k a) n i = some v) (kk : Ends call code (pc + 1, L, .int v :: r, h) res) : Ends call code (pc, L, .int i :: .ref (aP d c k a) :: r, h) res := by
  obtain ⟨h1, h2⟩ := ald_some hv
  refine en_al0 hc (fun _ => rfl) ?_ kk
  unfold u_ald
  rw [(hw_arr hW hk hs hn).1]
  simp only [arrc]
  rw [if_neg h1, h2]; rfl
theorem en_bald {c k a n : Nat} {i v : Int32} (hc : code pc = some (.baload, [])) (hW : HW w d h) (hk : aK d a = (0, c, 0)) (hs : sd c k = (3, 0, n)) (hn : k < nsl c) (hv : ald (cA (wg c w) k a) n i = some v) (kk : Ends call code (pc + 1, L, .int v :: r, h) res) : Ends call code (pc, L, .int i :: .ref (aP d c k a) :: r, h) res := by
  obtain ⟨h1, h2⟩ := ald_some hv
  refine en_al0 hc (fun _ => rfl) ?_ kk
  unfold u_ald
  rw [(hw_arr hW hk hs hn).1]
  simp only [arrc]
  rw [if_neg h1, h2]; rfl
theorem en_zald {c k a n : Nat} {i v : Int32} (hc : code pc = some (.baload, [])) (hW : HW w d h) (hk : aK d a = (0, c, 0)) (hs : sd c k = (3, 3, n)) (hn : k < nsl c) (hv : ald (cA (wg c w) k a) n i = some v) (kk : Ends call code (pc + 1, L, .int v :: r, h) res) : Ends call code (pc, L, .int i :: .ref (aP d c k a) :: r, h) res := by
  obtain ⟨h1, h2⟩ := ald_some hv
  refine en_al0 hc (fun _ => rfl) ?_ kk
  unfold u_ald
  rw [(hw_arr hW hk hs hn).1]
  simp only [arrc]
  rw [if_neg h1, h2]; rfl
theorem en_lald {c k a n : Nat} {i : Int32} {v : Int64} (hc : code pc = some (.laload, [])) (hW : HW w d h) (hk : aK d a = (0, c, 0)) (hs : sd c k = (3, 2, n)) (hn : k < nsl c) (hv : ldl (cB (wg c w) k a) n i = some v) (kk : Ends call code (pc + 1, L, .long v :: r, h) res) : Ends call code (pc, L, .int i :: .ref (aP d c k a) :: r, h) res := by
  obtain ⟨h1, h2⟩ := ldl_some hv
  refine en_al0 hc (fun _ => rfl) ?_ kk
  unfold u_ald
  rw [(hw_arr hW hk hs hn).1]
  simp only [arrc]
  rw [if_neg h1, h2]; rfl
theorem en_fiald {q : Nat} {i v : Int32} (hc : code pc = some (.iaload, [])) (hW : HW w d h) (hk : aK d q = (2, 1, 0)) (hv : ald (cA (wg 13 w) 0 q) (aN d q) i = some v) (kk : Ends call code (pc + 1, L, .int v :: r, h) res) : Ends call code (pc, L, .int i :: .ref q :: r, h) res := by
  obtain ⟨h1, h2⟩ := ald_some hv
  refine en_al0 hc (fun _ => rfl) ?_ kk
  unfold u_ald
  rw [hw_free hW hk]
  simp only [arrc]
  rw [if_neg h1, h2]; rfl
theorem en_flald {q : Nat} {i : Int32} {v : Int64} (hc : code pc = some (.laload, [])) (hW : HW w d h) (hk : aK d q = (2, 2, 0)) (hv : ldl (cB (wg 13 w) 0 q) (aN d q) i = some v) (kk : Ends call code (pc + 1, L, .long v :: r, h) res) : Ends call code (pc, L, .int i :: .ref q :: r, h) res := by
  obtain ⟨h1, h2⟩ := ldl_some hv
  refine en_al0 hc (fun _ => rfl) ?_ kk
  unfold u_ald
  rw [hw_free hW hk]
  simp only [arrc]
  rw [if_neg h1, h2]; rfl
theorem en_aald {c k a n t : Nat} {i : Int32} {v : Option Nat} (hc : code pc = some (.aaload, [])) (hW : HW w d h) (hk : aK d a = (0, c, 0)) (hs : sd c k = (3, t, n)) (ht : t = 4 ∨ t = 5 ∨ t = 6) (hn : k < nsl c) (hv : ldq (cQ (wg c w) k a) n i = some v) (kk : Ends call code (pc + 1, L, va_rf v :: r, h) res) : Ends call code (pc, L, .int i :: .ref (aP d c k a) :: r, h) res := by
  obtain ⟨h1, h2⟩ := ldq_some hv
  refine en_al0 hc (fun _ => rfl) ?_ kk
  unfold u_ald
  rw [(hw_arr hW hk hs hn).1]
  rcases ht with rfl | rfl | rfl <;> simp only [arrc] <;> rw [if_neg h1, h2] <;> rfl
end Rows
