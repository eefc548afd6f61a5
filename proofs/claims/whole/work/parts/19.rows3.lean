/-! ===== rows: fields that are put, lengths, copies, calls, branches ===== -/
section Rows3
variable {call : Nat → List Value → UH → UR → Prop} {code : Nat → Option UI} {pc : Nat} {L : List (Option Value)} {r st : List Value} {h : UH} {res : UR → Prop} {w w' : Wd} {d : Ad}
theorem set_map {α : Type} {n k : Nat} {f g : Nat → α} {v : α} (hv : g k = v) (hg : ∀ j, j ≠ k → g j = f j) : ((List.range n).map f).set k v = (List.range n).map g := by
  apply List.ext_getElem?
  intro j
  rw [List.getElem?_set]
  by_cases e : k = j
  · subst e
    rw [if_pos rfl]
    simp only [List.length_map, List.length_range, List.getElem?_map]
    split
    · rename_i q; rw [List.getElem?_range q]; simp [hv]
    · rename_i q; rw [List.getElem?_eq_none (by simpa using q)]; rfl
  · rw [if_neg e, List.getElem?_map, List.getElem?_map]
    rcases hq : (List.range n)[j]? with _ | z
    · rfl
    · have hz : z = j := by
        have := List.getElem?_eq_some_iff.mp hq
        obtain ⟨_, q⟩ := this
        simp at q; exact q.symm
      subst hz
      simp [hg z (fun q => e q.symm)]
theorem hw_fld (hW : HW w d h) {c k a : Nat} {x : Cl} {v : Value} (hk : aK d a = (0, c, 0)) (hv : fval (ws c w x) d c k a = v) (hI : ∀ j b, ¬ (j = k ∧ b = a) → cI x j b = cI (wg c w) j b) (hJ : ∀ j b, ¬ (j = k ∧ b = a) → cJ x j b = cJ (wg c w) j b) (hR : ∀ j b, ¬ (j = k ∧ b = a) → cR x j b = cR (wg c w) j b) (hA : cA x = cA (wg c w)) (hB : cB x = cB (wg c w)) (hQ : cQ x = cQ (wg c w)) (hf : wfs (ws c w x) d c k a) : HW (ws c w x) d (va_up h.1 a (.inr (c, (flds w d c a).set k v)), h.2.1, h.2.2) := by
  have hc := hw_lt hW hk
  refine hw_up hW ?_ (fun q hq => ?_) ?_
  · unfold cellOf
    rw [hk]
    show Sum.inr (c, flds (ws c w x) d c a) = _
    unfold flds
    rw [set_map (g := fun k => fval (ws c w x) d c k a) hv (fun j hj => fval_eq (by omega) hc j a (fun _ => hI j a (fun z => hj z.1)) (fun _ => hJ j a (fun z => hj z.1)) (fun _ => hR j a (fun z => hj z.1)))]
  · refine cell_eq hW (fun c' k' g1 g2 => fval_eq (by omega) g2 k' q (fun _ => hI k' q (fun z => hq z.2)) (fun _ => hJ k' q (fun z => hq z.2)) (fun _ => hR k' q (fun z => hq z.2))) (fun c' k' g1 g2 => ?_) (fun t j g => by rw [wg_ne w x (by omega) (by omega) (by omega)])
    by_cases e1 : c' = c
    · subst e1
      rw [wg_ws w x (by omega)]
      unfold arrc
      rw [hA, hB, hQ]
    · rw [wg_ne w x (by omega) (by omega) e1]
  · intro a' c' g k' hn
    by_cases e1 : c' = c ∧ k' = k ∧ a' = a
    · obtain ⟨rfl, rfl, rfl⟩ := e1; exact hf
    · refine wfs_eq (by omega) (hW.2.2.2.2.1 a' c' 0 g).2 k' a' (fun z => hR k' a' (fun y => e1 ⟨z, y.1, y.2⟩)) (fun z => by rw [hQ]) (hW.2.2.2.1 a' c' g k' hn)
theorem en_put0 {x c k t a : Nat} {v : Value} (hc : code pc = some (.putfield x, [c, k, t])) (hW : HW w d h) (hk : aK d a = (0, c, 0)) (hn : k < nsl c) (hf : u_fit t v = true) (kk : Ends call code (pc + 3, L, r, (va_up h.1 a (.inr (c, (flds w d c a).set k v)), h.2.1, h.2.2)) res) : Ends call code (pc, L, v :: .ref a :: r, h) res := by
  refine en_step hc ?_ kk
  show (match u_pf c k t h a v with | some e => some (.inl (pc + 3, L, r, (va_up h.1 a e, h.2.1, h.2.2))) | none => none : UO) = _
  have : u_pf c k t h a v = some (.inr (c, (flds w d c a).set k v)) := by
    unfold u_pf
    rw [hw_obj hW hk]
    dsimp only
    rw [if_pos ⟨rfl, by unfold flds; simpa using hn, hf⟩]
  rw [this]
theorem en_putI {x c k t a : Nat} {v : Int32} (hc : code pc = some (.putfield x, [c, k, t])) (hW : HW w d h) (hk : aK d a = (0, c, 0)) (hs : sd c k = (0, 0, 0)) (hn : k < nsl c) (hf : u_fit t (.int v) = true) (kk : ∀ h' : UH, HW (ws c w (sI (wg c w) k a v)) d h' → Ends call code (pc + 3, L, r, h') res) : Ends call code (pc, L, .int v :: .ref a :: r, h) res := by
  have hc' := hw_lt hW hk
  refine en_put0 hc hW hk hn hf (kk _ (hw_fld hW hk ?_ (fun j b z => up2_ne _ _ z) (fun j b z => rfl) (fun j b z => rfl) rfl rfl rfl ?_))
  · unfold fval; rw [hs, wg_ws _ _ (by omega)]; show Value.int (up2 _ k a v k a) = _; rw [up2_same]
  · unfold wfs; rw [hs]; trivial
theorem en_putJ {x c k t a : Nat} {v : Int64} (hc : code pc = some (.putfield x, [c, k, t])) (hW : HW w d h) (hk : aK d a = (0, c, 0)) (hs : sd c k = (1, 0, 0)) (hn : k < nsl c) (hf : u_fit t (.long v) = true) (kk : ∀ h' : UH, HW (ws c w (sJ (wg c w) k a v)) d h' → Ends call code (pc + 3, L, r, h') res) : Ends call code (pc, L, .long v :: .ref a :: r, h) res := by
  have hc' := hw_lt hW hk
  refine en_put0 hc hW hk hn hf (kk _ (hw_fld hW hk ?_ (fun j b z => rfl) (fun j b z => up2_ne _ _ z) (fun j b z => rfl) rfl rfl rfl ?_))
  · unfold fval; rw [hs, wg_ws _ _ (by omega)]; show Value.long (up2 _ k a v k a) = _; rw [up2_same]
  · unfold wfs; rw [hs]; trivial
theorem en_putR {x c k t a v y n : Nat} (hc : code pc = some (.putfield x, [c, k, t])) (hW : HW w d h) (hk : aK d a = (0, c, 0)) (hs : sd c k = (2, y, n)) (hn : k < nsl c) (hv : aK d v = (0, y, 0)) (hf : u_fit t (.ref v) = true) (kk : ∀ h' : UH, HW (ws c w (sR (wg c w) k a v)) d h' → Ends call code (pc + 3, L, r, h') res) : Ends call code (pc, L, .ref v :: .ref a :: r, h) res := by
  have hc' := hw_lt hW hk
  refine en_put0 hc hW hk hn hf (kk _ (hw_fld hW hk ?_ (fun j b z => rfl) (fun j b z => rfl) (fun j b z => up2_ne _ _ z) rfl rfl rfl ?_))
  · unfold fval; rw [hs, wg_ws _ _ (by omega)]; show Value.ref (up2 _ k a v k a) = _; rw [up2_same]
  · unfold wfs; rw [hs, wg_ws _ _ (by omega)]; show aK d (up2 _ k a v k a) = _; rw [up2_same]; exact hv
theorem en_putF {x c k t a v y n : Nat} (hc : code pc = some (.putfield x, [c, k, t])) (hW : HW w d h) (hk : aK d a = (0, c, 0)) (hs : sd c k = (4, y, n)) (hn : k < nsl c) (hv : aK d v = (2, y, 0)) (hf : u_fit t (.ref v) = true) (kk : ∀ h' : UH, HW (ws c w (sR (wg c w) k a v)) d h' → Ends call code (pc + 3, L, r, h') res) : Ends call code (pc, L, .ref v :: .ref a :: r, h) res := by
  have hc' := hw_lt hW hk
  refine en_put0 hc hW hk hn hf (kk _ (hw_fld hW hk ?_ (fun j b z => rfl) (fun j b z => rfl) (fun j b z => up2_ne _ _ z) rfl rfl rfl ?_))
  · unfold fval; rw [hs, wg_ws _ _ (by omega)]; show Value.ref (up2 _ k a v k a) = _; rw [up2_same]
  · unfold wfs; rw [hs, wg_ws _ _ (by omega)]; show aK d (up2 _ k a v k a) = _; rw [up2_same]; exact hv
theorem u_len_arrc {x : Cl} {t n k a q : Nat} (ht : t < 7) (hq : h.1 q = arrc x t n k a) : u_len h q = some n := by
  unfold u_len
  rw [hq]
  rcases (show t = 0 ∨ t = 1 ∨ t = 2 ∨ t = 3 ∨ t = 4 ∨ t = 5 ∨ t = 6 by omega) with rfl | rfl | rfl | rfl | rfl | rfl | rfl <;> rfl
theorem en_len0 {q n : Nat} {v : Int32} (hc : code pc = some (.arraylength, [])) (hl : u_len h q = some n) (hv : Int32.ofNat n = v) (kk : Ends call code (pc + 1, L, .int v :: r, h) res) : Ends call code (pc, L, .ref q :: r, h) res := by
  refine en_step hc ?_ kk
  show (match u_len h q with | some n => some (.inl (pc + 1, L, .int (Int32.ofNat n) :: r, h)) | none => none : UO) = _
  rw [hl, ← hv]
theorem en_len {c k a t n : Nat} {v : Int32} (hc : code pc = some (.arraylength, [])) (hW : HW w d h) (hk : aK d a = (0, c, 0)) (hs : sd c k = (3, t, n)) (hn : k < nsl c) (ht : t < 7) (hv : Int32.ofNat n = v) (kk : Ends call code (pc + 1, L, .int v :: r, h) res) : Ends call code (pc, L, .ref (aP d c k a) :: r, h) res := en_len0 hc (u_len_arrc ht (hw_arr hW hk hs hn).1) hv kk
theorem en_flen {q t : Nat} (hc : code pc = some (.arraylength, [])) (hW : HW w d h) (hk : aK d q = (2, t, 0)) (ht : t < 7) (kk : Ends call code (pc + 1, L, .int (Int32.ofNat (aN d q)) :: r, h) res) : Ends call code (pc, L, .ref q :: r, h) res := en_len0 hc (u_len_arrc ht (hw_free hW hk)) rfl kk
theorem cpi_some {c0 c c' : Cl} {k0 a0 n0 k a n : Nat} {sp dp z : Int32} (h : cpi c0 c k0 a0 n0 k a n sp dp z = some c') : ¬ (sp < 0 ∨ dp < 0 ∨ z < 0 ∨ ¬ (sp.toNatClampNeg + z.toNatClampNeg ≤ n0) ∨ ¬ (dp.toNatClampNeg + z.toNatClampNeg ≤ n)) ∧ c' = sA c k a (va_cpy (cA c0 k0 a0) (cA c k a) sp.toNatClampNeg dp.toNatClampNeg z.toNatClampNeg) := by
  unfold cpi at h
  split at h
  · cases h
  · rename_i g; cases h; exact ⟨g, rfl⟩
theorem en_copy {x c0 k0 a0 n0 c k a n : Nat} {sp dp z : Int32} {c' : Cl} (hc : code pc = some (.invokestatic x, [])) (hW : HW w d h) (hk0 : aK d a0 = (0, c0, 0)) (hs0 : sd c0 k0 = (3, 1, n0)) (hn0 : k0 < nsl c0) (hk : aK d a = (0, c, 0)) (hs : sd c k = (3, 1, n)) (hn : k < nsl c) (hr : r.length ≤ 8) (hv : cpi (wg c0 w) (wg c w) k0 a0 n0 k a n sp dp z = some c') (kk : ∀ h' : UH, HW (ws c w c') d h' → Ends call code (pc + 3, L, r, h') res) : Ends call code (pc, L, .int z :: .int dp :: .ref (aP d c k a) :: .int sp :: .ref (aP d c0 k0 a0) :: r, h) res := by
  obtain ⟨h1, rfl⟩ := cpi_some hv
  refine en_step (y := (pc + 3, L, r, (va_up h.1 (aP d c k a) (.inl (1, n, .inl (va_cpy (cA (wg c0 w) k0 a0) (cA (wg c w) k a) sp.toNatClampNeg dp.toNatClampNeg z.toNatClampNeg))), h.2.1, h.2.2))) hc ?_ (kk _ (hw_row hW hk hs hn rfl rfl rfl rfl (fun j b z => up2_ne _ _ z) (fun j b z => rfl) ?_))
  · show (match (if r.length ≤ 8 then u_cpy h (aP d c0 k0 a0) (aP d c k a) sp dp z else none) with | some e => some (.inl (pc + 3, L, r, (va_up h.1 (aP d c k a) e, h.2.1, h.2.2))) | none => none : UO) = _
    rw [if_pos hr]
    unfold u_cpy
    rw [(hw_arr hW hk0 hs0 hn0).1, (hw_arr hW hk hs hn).1]
    simp only [arrc]
    rw [if_neg h1]
  · simp only [arrc, sA, cA]; rw [up2_same]
theorem hw_cls (hW : HW w d h) {b ci : Nat} (hk : aK d b = (0, ci, 0)) : u_cls h b = ci := by unfold u_cls; rw [hw_obj hW hk]
theorem uc_v {x mi n ci b : Nat} {as : List Value} (hW : HW w d h) (hk : aK d b = (0, ci, 0)) (ha : u_arg (n + 1) st = (.ref b :: as, r)) (hn : as.length = n) (hr : r.length ≤ 4) : ucall (.invokevirtual x, [mi, n, ci]) st h = some (mi, .ref b :: as, r) := by
  unfold ucall
  dsimp only
  rw [ha]
  dsimp only
  rw [if_pos ⟨hn, hw_cls hW hk, hr⟩]
theorem uc_s {x mi n : Nat} {as : List Value} (ha : u_arg n st = (as, r)) (hn : as.length = n) (hr : r.length ≤ 4) : ucall (.invokestatic x, [mi, n]) st h = some (mi, as, r) := by
  unfold ucall
  dsimp only
  rw [ha]
  dsimp only
  rw [if_pos ⟨hn, hr⟩]
theorem en_vi {x mi n ci b : Nat} {as : List Value} {P : UH → Prop} {v : Int32} (hc : code pc = some (.invokevirtual x, [mi, n, ci])) (hW : HW w d h) (hk : aK d b = (0, ci, 0)) (ha : u_arg (n + 1) st = (.ref b :: as, r)) (hn : as.length = n) (hr : r.length ≤ 4) (hq : ∃ q, call mi (.ref b :: as) h q ∧ q.1 = some (.int v) ∧ P q.2) (kk : ∀ h' : UH, P h' → Ends call code (pc + 3, L, .int v :: r, h') res) : Ends call code (pc, L, st, h) res := by
  obtain ⟨⟨v', h'⟩, q1, q2, q3⟩ := hq
  dsimp only at q2 q3
  subst q2
  exact en_call hc (uc_v hW hk ha hn hr) q1 (kk h' q3)
theorem en_si {x mi n : Nat} {as : List Value} {P : UH → Prop} {v : Int32} (hc : code pc = some (.invokestatic x, [mi, n])) (ha : u_arg n st = (as, r)) (hn : as.length = n) (hr : r.length ≤ 4) (hq : ∃ q, call mi as h q ∧ q.1 = some (.int v) ∧ P q.2) (kk : ∀ h' : UH, P h' → Ends call code (pc + 3, L, .int v :: r, h') res) : Ends call code (pc, L, st, h) res := by
  obtain ⟨⟨v', h'⟩, q1, q2, q3⟩ := hq
  dsimp only at q2 q3
  subst q2
  exact en_call hc (uc_s ha hn hr) q1 (kk h' q3)
theorem en_vl {x mi n ci b : Nat} {as : List Value} {P : UH → Prop} {v : Int64} (hc : code pc = some (.invokevirtual x, [mi, n, ci])) (hW : HW w d h) (hk : aK d b = (0, ci, 0)) (ha : u_arg (n + 1) st = (.ref b :: as, r)) (hn : as.length = n) (hr : r.length ≤ 4) (hq : ∃ q, call mi (.ref b :: as) h q ∧ q.1 = some (.long v) ∧ P q.2) (kk : ∀ h' : UH, P h' → Ends call code (pc + 3, L, .long v :: r, h') res) : Ends call code (pc, L, st, h) res := by
  obtain ⟨⟨v', h'⟩, q1, q2, q3⟩ := hq
  dsimp only at q2 q3
  subst q2
  exact en_call hc (uc_v hW hk ha hn hr) q1 (kk h' q3)
theorem en_sl {x mi n : Nat} {as : List Value} {P : UH → Prop} {v : Int64} (hc : code pc = some (.invokestatic x, [mi, n])) (ha : u_arg n st = (as, r)) (hn : as.length = n) (hr : r.length ≤ 4) (hq : ∃ q, call mi as h q ∧ q.1 = some (.long v) ∧ P q.2) (kk : ∀ h' : UH, P h' → Ends call code (pc + 3, L, .long v :: r, h') res) : Ends call code (pc, L, st, h) res := by
  obtain ⟨⟨v', h'⟩, q1, q2, q3⟩ := hq
  dsimp only at q2 q3
  subst q2
  exact en_call hc (uc_s ha hn hr) q1 (kk h' q3)
theorem en_vv {x mi n ci b : Nat} {as : List Value} {P : UH → Prop} (hc : code pc = some (.invokevirtual x, [mi, n, ci])) (hW : HW w d h) (hk : aK d b = (0, ci, 0)) (ha : u_arg (n + 1) st = (.ref b :: as, r)) (hn : as.length = n) (hr : r.length ≤ 4) (hq : ∃ q, call mi (.ref b :: as) h q ∧ q.1 = none ∧ P q.2) (kk : ∀ h' : UH, P h' → Ends call code (pc + 3, L, r, h') res) : Ends call code (pc, L, st, h) res := by
  obtain ⟨⟨v', h'⟩, q1, q2, q3⟩ := hq
  dsimp only at q2 q3
  subst q2
  exact en_call hc (uc_v hW hk ha hn hr) q1 (kk h' q3)
theorem en_sv {x mi n : Nat} {as : List Value} {P : UH → Prop} (hc : code pc = some (.invokestatic x, [mi, n])) (ha : u_arg n st = (as, r)) (hn : as.length = n) (hr : r.length ≤ 4) (hq : ∃ q, call mi as h q ∧ q.1 = none ∧ P q.2) (kk : ∀ h' : UH, P h' → Ends call code (pc + 3, L, r, h') res) : Ends call code (pc, L, st, h) res := by
  obtain ⟨⟨v', h'⟩, q1, q2, q3⟩ := hq
  dsimp only at q2 q3
  subst q2
  exact en_call hc (uc_s ha hn hr) q1 (kk h' q3)
theorem en_vr {x mi n ci b : Nat} {as : List Value} {P : UH → Prop} {v : Option Nat} (hc : code pc = some (.invokevirtual x, [mi, n, ci])) (hW : HW w d h) (hk : aK d b = (0, ci, 0)) (ha : u_arg (n + 1) st = (.ref b :: as, r)) (hn : as.length = n) (hr : r.length ≤ 4) (hq : ∃ q, call mi (.ref b :: as) h q ∧ q.1 = some (va_rf v) ∧ P q.2) (kk : ∀ h' : UH, P h' → Ends call code (pc + 3, L, va_rf v :: r, h') res) : Ends call code (pc, L, st, h) res := by
  obtain ⟨⟨v', h'⟩, q1, q2, q3⟩ := hq
  dsimp only at q2 q3
  subst q2
  exact en_call hc (uc_v hW hk ha hn hr) q1 (kk h' q3)
theorem en_sr {x mi n : Nat} {as : List Value} {P : UH → Prop} {v : Option Nat} (hc : code pc = some (.invokestatic x, [mi, n])) (ha : u_arg n st = (as, r)) (hn : as.length = n) (hr : r.length ≤ 4) (hq : ∃ q, call mi as h q ∧ q.1 = some (va_rf v) ∧ P q.2) (kk : ∀ h' : UH, P h' → Ends call code (pc + 3, L, va_rf v :: r, h') res) : Ends call code (pc, L, st, h) res := by
  obtain ⟨⟨v', h'⟩, q1, q2, q3⟩ := hq
  dsimp only at q2 q3
  subst q2
  exact en_call hc (uc_s ha hn hr) q1 (kk h' q3)

theorem en_ic_eq {t : Nat} {o : Int} {x y : Int32} (hc : code pc = some (.if_icmp .eq o, [t])) (k1 : x = y → Ends call code (t, L, r, h) res) (k2 : ¬ x = y → Ends call code (pc + 3, L, r, h) res) : Ends call code (pc, L, .int y :: .int x :: r, h) res := by
  by_cases e : x = y
  · exact en_step hc (show (if x = y then some (.inl (t, L, r, h)) else some (.inl (pc + 3, L, r, h)) : UO) = _ by rw [if_pos e]) (k1 e)
  · exact en_step hc (show (if x = y then some (.inl (t, L, r, h)) else some (.inl (pc + 3, L, r, h)) : UO) = _ by rw [if_neg e]) (k2 e)
theorem en_if_eq {t : Nat} {o : Int} {x : Int32} (hc : code pc = some (.ifCond .eq o, [t])) (k1 : x = 0 → Ends call code (t, L, r, h) res) (k2 : ¬ x = 0 → Ends call code (pc + 3, L, r, h) res) : Ends call code (pc, L, .int x :: r, h) res := by
  by_cases e : x = 0
  · exact en_step hc (show (if x = 0 then some (.inl (t, L, r, h)) else some (.inl (pc + 3, L, r, h)) : UO) = _ by rw [if_pos e]) (k1 e)
  · exact en_step hc (show (if x = 0 then some (.inl (t, L, r, h)) else some (.inl (pc + 3, L, r, h)) : UO) = _ by rw [if_neg e]) (k2 e)
theorem en_ic_lt {t : Nat} {o : Int} {x y : Int32} (hc : code pc = some (.if_icmp .lt o, [t])) (k1 : x < y → Ends call code (t, L, r, h) res) (k2 : ¬ x < y → Ends call code (pc + 3, L, r, h) res) : Ends call code (pc, L, .int y :: .int x :: r, h) res := by
  by_cases e : x < y
  · exact en_step hc (show (if x < y then some (.inl (t, L, r, h)) else some (.inl (pc + 3, L, r, h)) : UO) = _ by rw [if_pos e]) (k1 e)
  · exact en_step hc (show (if x < y then some (.inl (t, L, r, h)) else some (.inl (pc + 3, L, r, h)) : UO) = _ by rw [if_neg e]) (k2 e)
theorem en_if_lt {t : Nat} {o : Int} {x : Int32} (hc : code pc = some (.ifCond .lt o, [t])) (k1 : x < 0 → Ends call code (t, L, r, h) res) (k2 : ¬ x < 0 → Ends call code (pc + 3, L, r, h) res) : Ends call code (pc, L, .int x :: r, h) res := by
  by_cases e : x < 0
  · exact en_step hc (show (if x < 0 then some (.inl (t, L, r, h)) else some (.inl (pc + 3, L, r, h)) : UO) = _ by rw [if_pos e]) (k1 e)
  · exact en_step hc (show (if x < 0 then some (.inl (t, L, r, h)) else some (.inl (pc + 3, L, r, h)) : UO) = _ by rw [if_neg e]) (k2 e)
theorem en_ic_ge {t : Nat} {o : Int} {x y : Int32} (hc : code pc = some (.if_icmp .ge o, [t])) (k1 : y ≤ x → Ends call code (t, L, r, h) res) (k2 : ¬ y ≤ x → Ends call code (pc + 3, L, r, h) res) : Ends call code (pc, L, .int y :: .int x :: r, h) res := by
  by_cases e : y ≤ x
  · exact en_step hc (show (if y ≤ x then some (.inl (t, L, r, h)) else some (.inl (pc + 3, L, r, h)) : UO) = _ by rw [if_pos e]) (k1 e)
  · exact en_step hc (show (if y ≤ x then some (.inl (t, L, r, h)) else some (.inl (pc + 3, L, r, h)) : UO) = _ by rw [if_neg e]) (k2 e)
theorem en_if_ge {t : Nat} {o : Int} {x : Int32} (hc : code pc = some (.ifCond .ge o, [t])) (k1 : 0 ≤ x → Ends call code (t, L, r, h) res) (k2 : ¬ 0 ≤ x → Ends call code (pc + 3, L, r, h) res) : Ends call code (pc, L, .int x :: r, h) res := by
  by_cases e : 0 ≤ x
  · exact en_step hc (show (if 0 ≤ x then some (.inl (t, L, r, h)) else some (.inl (pc + 3, L, r, h)) : UO) = _ by rw [if_pos e]) (k1 e)
  · exact en_step hc (show (if 0 ≤ x then some (.inl (t, L, r, h)) else some (.inl (pc + 3, L, r, h)) : UO) = _ by rw [if_neg e]) (k2 e)
theorem en_ic_gt {t : Nat} {o : Int} {x y : Int32} (hc : code pc = some (.if_icmp .gt o, [t])) (k1 : y < x → Ends call code (t, L, r, h) res) (k2 : ¬ y < x → Ends call code (pc + 3, L, r, h) res) : Ends call code (pc, L, .int y :: .int x :: r, h) res := by
  by_cases e : y < x
  · exact en_step hc (show (if y < x then some (.inl (t, L, r, h)) else some (.inl (pc + 3, L, r, h)) : UO) = _ by rw [if_pos e]) (k1 e)
  · exact en_step hc (show (if y < x then some (.inl (t, L, r, h)) else some (.inl (pc + 3, L, r, h)) : UO) = _ by rw [if_neg e]) (k2 e)
theorem en_if_gt {t : Nat} {o : Int} {x : Int32} (hc : code pc = some (.ifCond .gt o, [t])) (k1 : 0 < x → Ends call code (t, L, r, h) res) (k2 : ¬ 0 < x → Ends call code (pc + 3, L, r, h) res) : Ends call code (pc, L, .int x :: r, h) res := by
  by_cases e : 0 < x
  · exact en_step hc (show (if 0 < x then some (.inl (t, L, r, h)) else some (.inl (pc + 3, L, r, h)) : UO) = _ by rw [if_pos e]) (k1 e)
  · exact en_step hc (show (if 0 < x then some (.inl (t, L, r, h)) else some (.inl (pc + 3, L, r, h)) : UO) = _ by rw [if_neg e]) (k2 e)
theorem en_ic_le {t : Nat} {o : Int} {x y : Int32} (hc : code pc = some (.if_icmp .le o, [t])) (k1 : x ≤ y → Ends call code (t, L, r, h) res) (k2 : ¬ x ≤ y → Ends call code (pc + 3, L, r, h) res) : Ends call code (pc, L, .int y :: .int x :: r, h) res := by
  by_cases e : x ≤ y
  · exact en_step hc (show (if x ≤ y then some (.inl (t, L, r, h)) else some (.inl (pc + 3, L, r, h)) : UO) = _ by rw [if_pos e]) (k1 e)
  · exact en_step hc (show (if x ≤ y then some (.inl (t, L, r, h)) else some (.inl (pc + 3, L, r, h)) : UO) = _ by rw [if_neg e]) (k2 e)
theorem en_if_le {t : Nat} {o : Int} {x : Int32} (hc : code pc = some (.ifCond .le o, [t])) (k1 : x ≤ 0 → Ends call code (t, L, r, h) res) (k2 : ¬ x ≤ 0 → Ends call code (pc + 3, L, r, h) res) : Ends call code (pc, L, .int x :: r, h) res := by
  by_cases e : x ≤ 0
  · exact en_step hc (show (if x ≤ 0 then some (.inl (t, L, r, h)) else some (.inl (pc + 3, L, r, h)) : UO) = _ by rw [if_pos e]) (k1 e)
  · exact en_step hc (show (if x ≤ 0 then some (.inl (t, L, r, h)) else some (.inl (pc + 3, L, r, h)) : UO) = _ by rw [if_neg e]) (k2 e)
theorem en_ic_ne {t : Nat} {o : Int} {x y : Int32} (hc : code pc = some (.if_icmp .ne o, [t])) (k1 : x = y → Ends call code (pc + 3, L, r, h) res) (k2 : ¬ x = y → Ends call code (t, L, r, h) res) : Ends call code (pc, L, .int y :: .int x :: r, h) res := by
  by_cases e : x = y
  · exact en_step hc (show (if x = y then some (.inl (pc + 3, L, r, h)) else some (.inl (t, L, r, h)) : UO) = _ by rw [if_pos e]) (k1 e)
  · exact en_step hc (show (if x = y then some (.inl (pc + 3, L, r, h)) else some (.inl (t, L, r, h)) : UO) = _ by rw [if_neg e]) (k2 e)
theorem en_if_ne {t : Nat} {o : Int} {x : Int32} (hc : code pc = some (.ifCond .ne o, [t])) (k1 : x = 0 → Ends call code (pc + 3, L, r, h) res) (k2 : ¬ x = 0 → Ends call code (t, L, r, h) res) : Ends call code (pc, L, .int x :: r, h) res := by
  by_cases e : x = 0
  · exact en_step hc (show (if x = 0 then some (.inl (pc + 3, L, r, h)) else some (.inl (t, L, r, h)) : UO) = _ by rw [if_pos e]) (k1 e)
  · exact en_step hc (show (if x = 0 then some (.inl (pc + 3, L, r, h)) else some (.inl (t, L, r, h)) : UO) = _ by rw [if_neg e]) (k2 e)
theorem en_idiv {x y v : Int32} (hc : code pc = some (.idiv, [])) (hv : idv x y = some v) (kk : Ends call code (pc + 1, L, .int v :: r, h) res) : Ends call code (pc, L, .int y :: .int x :: r, h) res := by
  unfold idv at hv
  split at hv
  · cases hv
  · rename_i e; cases hv
    exact en_step hc (show (if y = 0 then none else some (.inl (pc + 1, L, .int (x / y) :: r, h)) : UO) = _ by rw [if_neg e]) kk
theorem en_irem {x y v : Int32} (hc : code pc = some (.irem, [])) (hv : irm x y = some v) (kk : Ends call code (pc + 1, L, .int v :: r, h) res) : Ends call code (pc, L, .int y :: .int x :: r, h) res := by
  unfold irm at hv
  split at hv
  · cases hv
  · rename_i e; cases hv
    exact en_step hc (show (if y = 0 then none else some (.inl (pc + 1, L, .int (x - x / y * y) :: r, h)) : UO) = _ by rw [if_neg e]) kk
theorem en_ldiv {x y v : Int64} (hc : code pc = some (.ldiv, [])) (hv : ldv x y = some v) (kk : Ends call code (pc + 1, L, .long v :: r, h) res) : Ends call code (pc, L, .long y :: .long x :: r, h) res := by
  unfold ldv at hv
  split at hv
  · cases hv
  · rename_i e; cases hv
    exact en_step hc (show (if y = 0 then none else some (.inl (pc + 1, L, .long (x / y) :: r, h)) : UO) = _ by rw [if_neg e]) kk
theorem en_lrem {x y v : Int64} (hc : code pc = some (.lrem, [])) (hv : lrm x y = some v) (kk : Ends call code (pc + 1, L, .long v :: r, h) res) : Ends call code (pc, L, .long y :: .long x :: r, h) res := by
  unfold lrm at hv
  split at hv
  · cases hv
  · rename_i e; cases hv
    exact en_step hc (show (if y = 0 then none else some (.inl (pc + 1, L, .long (x - x / y * y) :: r, h)) : UO) = _ by rw [if_neg e]) kk
theorem ti_ne {x c : Int32} (h : ¬ x = c) : x.toInt ≠ c.toInt := fun q => h (Int32.toInt_inj.mp q)
theorem en_tsC {dd lo hi : Int} {offs : Array Int} {t u : Nat} {ts : List Nat} {x : Int32} (hc : code pc = some (.tableswitch dd lo hi offs, t :: ts)) (h1 : ¬ (x.toInt < lo ∨ hi < x.toInt)) (h2 : ts[(x.toInt - lo).toNat]? = some u) (kk : Ends call code (u, L, r, h) res) : Ends call code (pc, L, .int x :: r, h) res := by
  refine en_step hc ?_ kk
  show (if x.toInt < lo ∨ hi < x.toInt then some (.inl (t, L, r, h)) else match ts[(x.toInt - lo).toNat]? with | some u => some (.inl (u, L, r, h)) | none => none : UO) = _
  rw [if_neg h1, h2]
theorem en_tsO {dd lo hi : Int} {offs : Array Int} {t : Nat} {ts : List Nat} {x : Int32} (hc : code pc = some (.tableswitch dd lo hi offs, t :: ts)) (h1 : x.toInt < lo ∨ hi < x.toInt) (kk : Ends call code (t, L, r, h) res) : Ends call code (pc, L, .int x :: r, h) res := by
  refine en_step hc ?_ kk
  show (if x.toInt < lo ∨ hi < x.toInt then some (.inl (t, L, r, h)) else match ts[(x.toInt - lo).toNat]? with | some u => some (.inl (u, L, r, h)) | none => none : UO) = _
  rw [if_pos h1]
theorem en_ls {dd : Int} {ps : Array (Int × Int)} {u : Nat} {x : Int32} (hc : code pc = some (.lookupswitch dd ps, [])) (h1 : ((pc : Int) + Op.lookupswitch.offset ps.toList dd x.toInt).toNat = u) (kk : Ends call code (u, L, r, h) res) : Ends call code (pc, L, .int x :: r, h) res := by
  refine en_step hc ?_ kk
  show some (Sum.inl (((pc : Int) + Op.lookupswitch.offset ps.toList dd x.toInt).toNat, L, r, h)) = _
  rw [h1]
end Rows3
