/-! ===== rows: objects that are being made ===== -/
section Rows5
variable {call : Nat → List Value → UH → UR → Prop} {code : Nat → Option UI} {pc : Nat} {L : List (Option Value)} {r st : List Value} {h : UH} {res : UR → Prop} {w w' : Wd} {d : Ad}
/-- one object more, that is being made -/
def adr (d : Ad) (c : Nat) : Ad := (va_up d.1 (aX d) (3, c, 0), d.2.1, d.2.2.1, d.2.2.2.1, aX d + 1, aS d + (u_def c).length, aL d, aT d, va_up (aF d) (aX d) (u_def c))
/-- fields of an object that is being made -/
def adf (d : Ad) (a : Nat) (fs : List Value) : Ad := (d.1, d.2.1, d.2.2.1, d.2.2.2.1, aX d, aS d, aL d, aT d, va_up (aF d) a fs)
theorem adr_k (d : Ad) (c a : Nat) : aK (adr d c) a = if a = aX d then (3, c, 0) else aK d a := rfl
theorem adr_x (hW : HW w d h) (c : Nat) : Adx d (adr d c) := by
  refine ⟨Nat.le_succ _, fun a ha => ?_, fun _ _ _ _ => rfl, fun a t' ha => rfl, fun a c' k ha => ?_, rfl, rfl, fun _ _ _ => rfl⟩
  · rw [adr_k, if_neg]
    intro q; subst q; exact ha (hW.2.2.2.2.2.2.1 _ (Nat.le_refl _))
  · have : a ≠ aX d := fun q => by subst q; rw [hW.2.2.2.2.2.2.1 _ (Nat.le_refl _)] at ha; cases ha
    show va_up (aF d) (aX d) _ a = aF d a
    unfold va_up; rw [if_neg this]
theorem hw_raw (hW : HW w d h) (c : Nat) : HW w (adr d c) (u_new h (.inr (c, u_def c)) (u_def c).length) := by
  have hne : ∀ {a : Nat} {y : Nat × Nat × Nat}, aK d a = y → y.1 ≠ 9 → a ≠ aX d := fun {a y} e1 e2 q => by
    subst q; rw [hW.2.2.2.2.2.2.1 _ (Nat.le_refl _)] at e1; subst e1; exact e2 rfl
  have hx := adr_x hW c
  refine ⟨fun q => ?_, by show h.2.1 + 1 = aX d + 1; rw [hW.2.1], by show h.2.2 + _ = aS d + _; rw [hW.2.2.1], ?_, fun a c' k hk => ?_, fun a c' k hk => ?_, fun a ha => ?_, fun a t' k ha => ?_⟩
  · show va_up h.1 h.2.1 _ q = _
    unfold va_up
    rw [hW.2.1]
    by_cases hq : q = aX d
    · rw [if_pos hq]
      unfold cellOf
      rw [adr_k, if_pos hq]
      show _ = Sum.inr (c, va_up (aF d) (aX d) (u_def c) q)
      unfold va_up
      rw [if_pos hq]
    · rw [if_neg hq, hW.1 q]
      unfold cellOf
      rw [adr_k, if_neg hq]
      split
      · rfl
      · rfl
      · rfl
      · rename_i c' j hk
        show _ = Sum.inr (c', va_up (aF d) (aX d) (u_def c) q)
        unfold va_up
        rw [if_neg hq]
      · rfl
      · rfl
      · rfl
  · intro a c' hk k hn'
    rw [adr_k] at hk
    by_cases ha : a = aX d
    · rw [if_pos ha] at hk; cases hk
    · rw [if_neg ha] at hk
      have hf := hW.2.2.2.1 a c' hk k hn'
      unfold wfs at hf ⊢
      split
      · rename_i y _ e; rw [e] at hf; exact hx.o hf
      · rename_i y _ e; rw [e] at hf
        refine ⟨?_, hf.2.1, fun z j q hq => hx.o (hf.2.2 z j q hq)⟩
        show aK (adr d c) (aP d c' k a) = _
        rw [adr_k, if_neg (hne hf.1 (show (1 : Nat) ≠ 9 by decide))]; exact hf.1
      · rename_i y _ e; rw [e] at hf; exact hx.f hf
      · rename_i e; rw [e] at hf; exact hx.o hf
      · trivial
  · rw [adr_k] at hk
    split at hk
    · cases hk
    · exact hW.2.2.2.2.1 a c' k hk
  · rw [adr_k] at hk
    split at hk
    · cases hk
    · obtain ⟨g1, g2, g3⟩ := hW.2.2.2.2.2.1 a c' k hk
      exact ⟨hx.o g1, g2, g3⟩
  · have ha' : aX d + 1 ≤ a := ha
    rw [adr_k, if_neg (by omega)]
    exact hW.2.2.2.2.2.2.1 a (by omega)
  · rw [adr_k] at ha
    split at ha
    · cases ha
    · exact hW.2.2.2.2.2.2.2 a t' k ha
theorem en_new {x c : Nat} (hc : code pc = some (.new x, [c])) (hW : HW w d h) (kk : ∀ h' : UH, HW w (adr d c) h' → Adx d (adr d c) → aK (adr d c) (aX d) = (3, c, 0) → Ends call code (pc + 3, L, .ref (aX d) :: r, h') res) : Ends call code (pc, L, r, h) res := by
  refine en_step hc (y := (pc + 3, L, .ref h.2.1 :: r, u_new h (.inr (c, u_def c)) (u_def c).length)) rfl ?_
  rw [hW.2.1]
  exact kk _ (hw_raw hW c) (adr_x hW c) (by rw [adr_k, if_pos rfl])
theorem adf_k (d : Ad) (a : Nat) (fs : List Value) (q : Nat) : aK (adf d a fs) q = aK d q := rfl
theorem hw_putr (hW : HW w d h) {a c : Nat} (hk : aK d a = (3, c, 0)) (fs : List Value) : HW w (adf d a fs) (va_up h.1 a (.inr (c, fs)), h.2.1, h.2.2) := by
  refine ⟨fun q => ?_, hW.2.1, hW.2.2.1, hW.2.2.2.1, hW.2.2.2.2.1, hW.2.2.2.2.2.1, hW.2.2.2.2.2.2.1, hW.2.2.2.2.2.2.2⟩
  show va_up h.1 a _ q = _
  unfold va_up
  by_cases hq : q = a
  · rw [if_pos hq]
    unfold cellOf
    rw [adf_k, hq, hk]
    show _ = Sum.inr (c, va_up (aF d) a fs a)
    unfold va_up
    rw [if_pos rfl]
  · rw [if_neg hq, hW.1 q]
    unfold cellOf
    rw [adf_k]
    split
    · rfl
    · rfl
    · rfl
    · rename_i c' j hk'
      show _ = Sum.inr (c', va_up (aF d) a fs q)
      unfold va_up; rw [if_neg hq]
    · rfl
    · rfl
    · rfl
theorem hw_rawc (hW : HW w d h) {a c : Nat} (hk : aK d a = (3, c, 0)) : h.1 a = .inr (c, aF d a) := by
  rw [hW.1 a]; unfold cellOf; rw [hk]; rfl
theorem en_putr {x a c k t : Nat} {v : Value} (hc : code pc = some (.putfield x, [c, k, t])) (hW : HW w d h) (hk : aK d a = (3, c, 0)) (hl : k < (aF d a).length) (hf : u_fit t v = true) (kk : ∀ h' : UH, HW w (adf d a ((aF d a).set k v)) h' → Ends call code (pc + 3, L, r, h') res) : Ends call code (pc, L, v :: .ref a :: r, h) res := by
  refine en_step hc (y := (pc + 3, L, r, (va_up h.1 a (.inr (c, (aF d a).set k v)), h.2.1, h.2.2))) ?_ (kk _ (hw_putr hW hk _))
  show (match u_pf c k t h a v with | some e => some (.inl (pc + 3, L, r, (va_up h.1 a e, h.2.1, h.2.2))) | none => none : UO) = _
  have : u_pf c k t h a v = some (.inr (c, (aF d a).set k v)) := by
    unfold u_pf
    rw [hw_rawc hW hk]
    exact if_pos ⟨rfl, hl, hf⟩
  rw [this]
theorem en_getr {x a c k : Nat} {v : Value} (hc : code pc = some (.getfield x, [c, k])) (hW : HW w d h) (hk : aK d a = (3, c, 0)) (hv : (aF d a)[k]? = some v) (kk : Ends call code (pc + 3, L, v :: r, h) res) : Ends call code (pc, L, .ref a :: r, h) res := by
  refine en_step hc (y := (pc + 3, L, v :: r, h)) ?_ kk
  show (match u_gf c k h a with | some v => some (.inl (pc + 3, L, v :: r, h)) | none => none : UO) = _
  have : u_gf c k h a = some v := by
    unfold u_gf
    rw [hw_rawc hW hk]
    exact (if_pos rfl).trans hv
  rw [this]
end Rows5
