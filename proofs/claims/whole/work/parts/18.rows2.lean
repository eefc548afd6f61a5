/-! ===== rows over the world in fields: what is written ===== -/
section Rows2
variable {call : Nat → List Value → UH → UR → Prop} {code : Nat → Option UI} {pc : Nat} {L : List (Option Value)} {r : List Value} {h : UH} {res : UR → Prop} {w w' : Wd} {d : Ad}
theorem hw_up (hW : HW w d h) {q0 : Nat} {e : UE} (he : cellOf w' d q0 = e) (hs : ∀ q, q ≠ q0 → cellOf w' d q = cellOf w d q) (hf : WF w' d) : HW w' d (va_up h.1 q0 e, h.2.1, h.2.2) := by
  refine ⟨fun q => ?_, hW.2.1, hW.2.2.1, hf, hW.2.2.2.2.1, hW.2.2.2.2.2⟩
  show va_up h.1 q0 e q = _
  unfold va_up
  by_cases hq : q = q0
  · rw [if_pos hq, hq, he]
  · rw [if_neg hq, hs q hq, hW.1 q]
/-- cells of two worlds are alike where fields and rows are -/
theorem cell_eq (hW : HW w d h) {q : Nat} (h0 : ∀ c k, aK d q = (0, c, 0) → c < 13 → fval w' d c k q = fval w d c k q) (h1 : ∀ c k, aK d q = (1, c, k) → c < 13 → arrc (wg c w') (sd c k).2.1 (sd c k).2.2 k (aO d q) = arrc (wg c w) (sd c k).2.1 (sd c k).2.2 k (aO d q)) (h2 : ∀ t j, aK d q = (2, t, j) → arrc (wg 13 w') t (aN d q) 0 q = arrc (wg 13 w) t (aN d q) 0 q) : cellOf w' d q = cellOf w d q := by
  unfold cellOf
  split
  · rename_i c j hk
    obtain ⟨rfl, hc⟩ := hW.2.2.2.2.1 q c j hk
    unfold flds
    congr 2
    exact List.map_congr_left fun k _ => h0 c k hk hc
  · rename_i c k hk
    obtain ⟨g, -, -⟩ := hW.2.2.2.2.2.1 q c k hk
    exact h1 c k hk (hW.2.2.2.2.1 _ c 0 g).2
  · rename_i t j hk
    exact h2 t j hk
  · rfl
  · rfl
  · rfl
  · rfl
theorem fval_eq {x : Cl} {c c' : Nat} (hc : c < 14) (hc' : c' < 13) (k q : Nat) (hI : c' = c → cI x k q = cI (wg c w) k q) (hJ : c' = c → cJ x k q = cJ (wg c w) k q) (hR : c' = c → cR x k q = cR (wg c w) k q) : fval (ws c w x) d c' k q = fval w d c' k q := by
  by_cases e : c' = c
  · subst e
    unfold fval
    rw [wg_ws w x hc, hI rfl, hJ rfl, hR rfl]
  · unfold fval
    rw [wg_ne w x hc (by omega) e]
theorem wfs_eq {x : Cl} {c c' : Nat} (hc : c < 14) (hc' : c' < 13) (k q : Nat) (hR : c' = c → cR x k q = cR (wg c w) k q) (hQ : c' = c → cQ x k q = cQ (wg c w) k q) (h0 : wfs w d c' k q) : wfs (ws c w x) d c' k q := by
  by_cases e : c' = c
  · subst e
    unfold wfs at h0 ⊢
    rw [wg_ws w x hc, hR rfl, hQ rfl]
    exact h0
  · unfold wfs at h0 ⊢
    rw [wg_ne w x hc (by omega) e]
    exact h0
theorem WF_eq {x : Cl} {c : Nat} (hW : HW w d h) (hc : c < 14) (hR : cR x = cR (wg c w)) (hQ : cQ x = cQ (wg c w)) : WF (ws c w x) d := by
  intro a c' hk k hn
  exact wfs_eq hc (hW.2.2.2.2.1 a c' 0 hk).2 k a (fun _ => by rw [hR]) (fun _ => by rw [hQ]) (hW.2.2.2.1 a c' hk k hn)
theorem up2_same {α : Type} (f : Nat → Nat → α) (k a : Nat) (v : α) : up2 f k a v k a = v := by unfold up2; rw [if_pos ⟨rfl, rfl⟩]
theorem up2_ne {α : Type} (f : Nat → Nat → α) {k a j b : Nat} (v : α) (h : ¬ (j = k ∧ b = a)) : up2 f k a v j b = f j b := by unfold up2; rw [if_neg h]
/-- a row of one owner -/
theorem hw_row (hW : HW w d h) {c k a t n : Nat} {x : Cl} {e : UE} (hk : aK d a = (0, c, 0)) (hs : sd c k = (3, t, n)) (hn : k < nsl c) (hI : cI x = cI (wg c w)) (hJ : cJ x = cJ (wg c w)) (hR : cR x = cR (wg c w)) (hQ : cQ x = cQ (wg c w)) (hA : ∀ j b, ¬ (j = k ∧ b = a) → cA x j b = cA (wg c w) j b) (hB : ∀ j b, ¬ (j = k ∧ b = a) → cB x j b = cB (wg c w) j b) (he : arrc x t n k a = e) : HW (ws c w x) d (va_up h.1 (aP d c k a) e, h.2.1, h.2.2) := by
  have hc := hw_lt hW hk
  obtain ⟨-, hk1, hO⟩ := hw_arr hW hk hs hn
  refine hw_up hW ?_ (fun q hq => ?_) (WF_eq hW (by omega) hR hQ)
  · unfold cellOf
    rw [hk1]
    show arrc (wg c (ws c w x)) (sd c k).2.1 (sd c k).2.2 k (aO d (aP d c k a)) = e
    rw [hs, hO, wg_ws w x (by omega)]
    exact he
  · refine cell_eq hW (fun c' k' g1 g2 => fval_eq (by omega) g2 k' q (fun _ => by rw [hI]) (fun _ => by rw [hJ]) (fun _ => by rw [hR])) (fun c' k' g1 g2 => ?_) (fun t j g => by rw [wg_ne w x (by omega) (by omega) (by omega)])
    by_cases e1 : c' = c
    · subst e1
      rw [wg_ws w x (by omega)]
      have hne : ¬ (k' = k ∧ aO d q = a) := fun z => by
        have := (hW.2.2.2.2.2.1 q c' k' g1).2.2
        rw [z.1, z.2] at this
        exact hq this.symm
      unfold arrc
      rw [hA _ _ hne, hB _ _ hne, hQ]
    · rw [wg_ne w x (by omega) (by omega) e1]
/-- a row that nobody owns -/
theorem hw_frow (hW : HW w d h) {q t : Nat} {x : Cl} {e : UE} (hk : aK d q = (2, t, 0)) (hQ : cQ x = cQ (wg 13 w)) (hA : ∀ j b, ¬ (j = 0 ∧ b = q) → cA x j b = cA (wg 13 w) j b) (hB : ∀ j b, ¬ (j = 0 ∧ b = q) → cB x j b = cB (wg 13 w) j b) (he : arrc x t (aN d q) 0 q = e) : HW (ws 13 w x) d (va_up h.1 q e, h.2.1, h.2.2) := by
  refine hw_up hW ?_ (fun q' hq => ?_) (fun a c' g k hn => wfs_eq (by omega) (hW.2.2.2.2.1 a c' 0 g).2 k a (fun z => by have := (hW.2.2.2.2.1 a c' 0 g).2; omega) (fun z => by have := (hW.2.2.2.2.1 a c' 0 g).2; omega) (hW.2.2.2.1 a c' g k hn))
  · unfold cellOf
    rw [hk]
    show arrc (wg 13 (ws 13 w x)) t (aN d q) 0 q = e
    rw [wg_ws w x (by omega)]
    exact he
  · refine cell_eq hW (fun c' k' g1 g2 => fval_eq (by omega) g2 k' q' (fun z => by omega) (fun z => by omega) (fun z => by omega)) (fun c' k' g1 g2 => by rw [wg_ne w x (by omega) (by omega) (by omega)]) (fun t' j g => ?_)
    rw [wg_ws w x (by omega)]
    have hne : ¬ (0 = 0 ∧ q' = q) := fun z => hq z.2
    unfold arrc
    rw [hA _ _ hne, hB _ _ hne, hQ]
theorem ast_some {c c' : Cl} {k a n : Nat} {i x : Int32} (h : ast c k a n i x = some c') : ¬ (i < 0 ∨ n ≤ i.toNatClampNeg) ∧ c' = sA c k a (upd (cA c k a) i.toNatClampNeg x) := by
  unfold ast at h
  split at h
  · cases h
  · rename_i g; cases h; exact ⟨g, rfl⟩
theorem stl_some {c c' : Cl} {k a n : Nat} {i : Int32} {x : Int64} (h : stl c k a n i x = some c') : ¬ (i < 0 ∨ n ≤ i.toNatClampNeg) ∧ c' = sB c k a (vp_updL (cB c k a) i.toNatClampNeg x) := by
  unfold stl at h
  split at h
  · cases h
  · rename_i g; cases h; exact ⟨g, rfl⟩
theorem en_as0 {ins : Instr} {q : Nat} {i : Int32} {v : Value} {m : Nat} {e : UE} (hc : code pc = some (ins, [])) (hi : ∀ x : UC, ustep (ins, []) x = u_as m x.1 x.2.1 x.2.2.1 x.2.2.2) (hv : u_ast m h q i v = some e) (kk : Ends call code (pc + 1, L, r, (va_up h.1 q e, h.2.1, h.2.2)) res) : Ends call code (pc, L, v :: .int i :: .ref q :: r, h) res := by
  refine en_step hc ?_ kk
  rw [hi]
  show (match u_ast m h q i v with | some e => some (.inl (pc + 1, L, r, (va_up h.1 q e, h.2.1, h.2.2))) | none => none : UO) = _
  rw [hv]
theorem en_iast {c k a n : Nat} {i x : Int32} {c' : Cl} (hc : code pc = some (.iastore, [])) (hW : HW w d h) (hk : aK d a = (0, c, 0)) (hs : sd c k = (3, 1, n)) (hn : k < nsl c) (hv : ast (wg c w) k a n i x = some c') (kk : ∀ h' : UH, HW (ws c w c') d h' → Ends call code (pc + 1, L, r, h') res) : Ends call code (pc, L, .int x :: .int i :: .ref (aP d c k a) :: r, h) res := by
  obtain ⟨h1, rfl⟩ := ast_some hv
  refine en_as0 (e := .inl (1, n, .inl (upd (cA (wg c w) k a) i.toNatClampNeg x))) hc (fun _ => rfl) ?_ (kk _ (hw_row hW hk hs hn rfl rfl rfl rfl (fun j b z => up2_ne _ _ z) (fun j b z => rfl) ?_))
  · unfold u_ast
    rw [(hw_arr hW hk hs hn).1]
    simp only [arrc]
    rw [if_neg h1]; rfl
  · simp only [arrc, sA, cA]; rw [up2_same]
theorem en_bast {c k a n : Nat} {i x : Int32} {c' : Cl} (hc : code pc = some (.bastore, [])) (hW : HW w d h) (hk : aK d a = (0, c, 0)) (hs : sd c k = (3, 0, n)) (hn : k < nsl c) (hv : ast (wg c w) k a n i (vp_nar .byte x) = some c') (kk : ∀ h' : UH, HW (ws c w c') d h' → Ends call code (pc + 1, L, r, h') res) : Ends call code (pc, L, .int x :: .int i :: .ref (aP d c k a) :: r, h) res := by
  obtain ⟨h1, rfl⟩ := ast_some hv
  refine en_as0 (e := .inl (0, n, .inl (upd (cA (wg c w) k a) i.toNatClampNeg (vp_nar .byte x)))) hc (fun _ => rfl) ?_ (kk _ (hw_row hW hk hs hn rfl rfl rfl rfl (fun j b z => up2_ne _ _ z) (fun j b z => rfl) ?_))
  · unfold u_ast
    rw [(hw_arr hW hk hs hn).1]
    simp only [arrc]
    rw [if_neg h1]; rfl
  · simp only [arrc, sA, cA]; rw [up2_same]
theorem en_zast {c k a n : Nat} {i x : Int32} {c' : Cl} (hc : code pc = some (.bastore, [])) (hW : HW w d h) (hk : aK d a = (0, c, 0)) (hs : sd c k = (3, 3, n)) (hn : k < nsl c) (hv : ast (wg c w) k a n i (vp_nar .boolean x) = some c') (kk : ∀ h' : UH, HW (ws c w c') d h' → Ends call code (pc + 1, L, r, h') res) : Ends call code (pc, L, .int x :: .int i :: .ref (aP d c k a) :: r, h) res := by
  obtain ⟨h1, rfl⟩ := ast_some hv
  refine en_as0 (e := .inl (3, n, .inl (upd (cA (wg c w) k a) i.toNatClampNeg (vp_nar .boolean x)))) hc (fun _ => rfl) ?_ (kk _ (hw_row hW hk hs hn rfl rfl rfl rfl (fun j b z => up2_ne _ _ z) (fun j b z => rfl) ?_))
  · unfold u_ast
    rw [(hw_arr hW hk hs hn).1]
    simp only [arrc]
    rw [if_neg h1]; rfl
  · simp only [arrc, sA, cA]; rw [up2_same]
theorem en_last {c k a n : Nat} {i : Int32} {x : Int64} {c' : Cl} (hc : code pc = some (.lastore, [])) (hW : HW w d h) (hk : aK d a = (0, c, 0)) (hs : sd c k = (3, 2, n)) (hn : k < nsl c) (hv : stl (wg c w) k a n i x = some c') (kk : ∀ h' : UH, HW (ws c w c') d h' → Ends call code (pc + 1, L, r, h') res) : Ends call code (pc, L, .long x :: .int i :: .ref (aP d c k a) :: r, h) res := by
  obtain ⟨h1, rfl⟩ := stl_some hv
  refine en_as0 (e := .inl (2, n, .inr (.inl (vp_updL (cB (wg c w) k a) i.toNatClampNeg x)))) hc (fun _ => rfl) ?_ (kk _ (hw_row hW hk hs hn rfl rfl rfl rfl (fun j b z => rfl) (fun j b z => up2_ne _ _ z) ?_))
  · unfold u_ast
    rw [(hw_arr hW hk hs hn).1]
    simp only [arrc]
    rw [if_neg h1]; rfl
  · simp only [arrc, sB, cB]; rw [up2_same]
theorem en_fiast {q : Nat} {i x : Int32} {c' : Cl} (hc : code pc = some (.iastore, [])) (hW : HW w d h) (hk : aK d q = (2, 1, 0)) (hv : ast (wg 13 w) 0 q (aN d q) i x = some c') (kk : ∀ h' : UH, HW (ws 13 w c') d h' → Ends call code (pc + 1, L, r, h') res) : Ends call code (pc, L, .int x :: .int i :: .ref q :: r, h) res := by
  obtain ⟨h1, rfl⟩ := ast_some hv
  refine en_as0 (e := .inl (1, aN d q, .inl (upd (cA (wg 13 w) 0 q) i.toNatClampNeg x))) hc (fun _ => rfl) ?_ (kk _ (hw_frow hW hk rfl (fun j b z => up2_ne _ _ z) (fun j b z => rfl) ?_))
  · unfold u_ast
    rw [hw_free hW hk]
    simp only [arrc]
    rw [if_neg h1]; rfl
  · simp only [arrc, sA, cA]; rw [up2_same]
theorem en_flast {q : Nat} {i : Int32} {x : Int64} {c' : Cl} (hc : code pc = some (.lastore, [])) (hW : HW w d h) (hk : aK d q = (2, 2, 0)) (hv : stl (wg 13 w) 0 q (aN d q) i x = some c') (kk : ∀ h' : UH, HW (ws 13 w c') d h' → Ends call code (pc + 1, L, r, h') res) : Ends call code (pc, L, .long x :: .int i :: .ref q :: r, h) res := by
  obtain ⟨h1, rfl⟩ := stl_some hv
  refine en_as0 (e := .inl (2, aN d q, .inr (.inl (vp_updL (cB (wg 13 w) 0 q) i.toNatClampNeg x)))) hc (fun _ => rfl) ?_ (kk _ (hw_frow hW hk rfl (fun j b z => rfl) (fun j b z => up2_ne _ _ z) ?_))
  · unfold u_ast
    rw [hw_free hW hk]
    simp only [arrc]
    rw [if_neg h1]; rfl
  · simp only [arrc, sB, cB]; rw [up2_same]
end Rows2
