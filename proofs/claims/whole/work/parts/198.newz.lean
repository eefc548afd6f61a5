/-! ===== rows: arrays of objects that are being made ===== -/
section Rows7
variable {call : Nat → List Value → UH → UR → Prop} {code : Nat → Option UI} {pc : Nat} {L : List (Option Value)} {r st : List Value} {h : UH} {res : UR → Prop} {w w' : Wd} {d : Ad}
/-- one array more, of an object that is being made -/
def adz (d : Ad) (t n : Nat) : Ad := (va_up d.1 (aX d) (4, t, 0), d.2.1, d.2.2.1, va_up d.2.2.2.1 (aX d) n, aX d + 1, aS d + n, d.2.2.2.2.2.2)
theorem adz_k (d : Ad) (t n a : Nat) : aK (adz d t n) a = if a = aX d then (4, t, 0) else aK d a := rfl
theorem adz_n (d : Ad) (t n a : Nat) : aN (adz d t n) a = if a = aX d then n else aN d a := rfl
theorem adz_x (hW : HW w d h) (t n : Nat) : Adx d (adz d t n) := by
  have hne : ∀ {a : Nat} {y : Nat × Nat × Nat}, aK d a = y → y.1 ≠ 9 → a ≠ aX d := fun {a y} e1 e2 q => by
    subst q; rw [hW.2.2.2.2.2.2.1 _ (Nat.le_refl _)] at e1; subst e1; exact e2 rfl
  refine ⟨Nat.le_succ _, fun a ha => ?_, fun _ _ _ _ => rfl, fun a t' ha => ?_, fun _ _ _ _ => rfl, rfl, rfl, fun a t' ha => ?_⟩
  · rw [adz_k, if_neg]
    intro q; subst q; exact ha (hW.2.2.2.2.2.2.1 _ (Nat.le_refl _))
  · rw [adz_n, if_neg (hne ha (show (2 : Nat) ≠ 9 by decide))]
  · rw [adz_n, if_neg (hne ha (show (4 : Nat) ≠ 9 by decide))]
theorem hw_newz (hW : HW w d h) (t n : Nat) : HW w (adz d t n) (u_new h (arrc zcl t n 0 0) n) := by
  have hne : ∀ {a : Nat} {y : Nat × Nat × Nat}, aK d a = y → y.1 ≠ 9 → a ≠ aX d := fun {a y} e1 e2 q => by
    subst q; rw [hW.2.2.2.2.2.2.1 _ (Nat.le_refl _)] at e1; subst e1; exact e2 rfl
  have hx := adz_x hW t n
  refine ⟨fun q => ?_, by show h.2.1 + 1 = aX d + 1; rw [hW.2.1], by show h.2.2 + _ = aS d + _; rw [hW.2.2.1], ?_, fun a c' k hk => ?_, fun a c' k hk => ?_, fun a ha => ?_, fun a t' k ha => ?_⟩
  · show va_up h.1 h.2.1 _ q = _
    unfold va_up
    rw [hW.2.1]
    by_cases hq : q = aX d
    · rw [if_pos hq]
      unfold cellOf
      rw [adz_k, if_pos hq, adz_n, if_pos hq]
      rfl
    · rw [if_neg hq, hW.1 q]
      unfold cellOf
      rw [adz_k, if_neg hq, adz_n, if_neg hq]
      split <;> rfl
  · intro a c' hk k hn'
    rw [adz_k] at hk
    by_cases ha : a = aX d
    · rw [if_pos ha] at hk; cases hk
    · rw [if_neg ha] at hk
      have hf := hW.2.2.2.1 a c' hk k hn'
      unfold wfs at hf ⊢
      split
      · rename_i y _ e; rw [e] at hf; exact hx.o hf
      · rename_i y _ e; rw [e] at hf
        refine ⟨?_, hf.2.1, fun z j q hq => hx.o (hf.2.2 z j q hq)⟩
        show aK (adz d t n) (aP d c' k a) = _
        rw [adz_k, if_neg (hne hf.1 (show (1 : Nat) ≠ 9 by decide))]; exact hf.1
      · rename_i y _ e; rw [e] at hf; exact hx.f hf
      · rename_i e; rw [e] at hf; exact hx.o hf
      · trivial
  · rw [adz_k] at hk
    split at hk
    · cases hk
    · exact hW.2.2.2.2.1 a c' k hk
  · rw [adz_k] at hk
    split at hk
    · cases hk
    · obtain ⟨g1, g2, g3⟩ := hW.2.2.2.2.2.1 a c' k hk
      exact ⟨hx.o g1, g2, g3⟩
  · have ha' : aX d + 1 ≤ a := ha
    rw [adz_k, if_neg (by omega)]
    exact hW.2.2.2.2.2.2.1 a (by omega)
  · rw [adz_k] at ha
    rw [adz_n]
    split at ha
    · cases ha
    · rename_i z; rw [if_neg z]; exact hW.2.2.2.2.2.2.2 a t' k ha
theorem en_nz {n : Int32} {ty} {t N : Nat} (hc : code pc = some (.newarray ty, [t])) (hW : HW w d h) (hn : ¬ (n < 0 ∨ ¬ n.toNatClampNeg ≤ 1000000)) (hN : n.toNatClampNeg = N) (hz : u_zero t N = some (arrc zcl t N 0 0)) (kk : ∀ h' : UH, HW w (adz d t N) h' → Adx d (adz d t N) → aK (adz d t N) (aX d) = (4, t, 0) → aN (adz d t N) (aX d) = N → Ends call code (pc + 2, L, .ref (aX d) :: r, h') res) : Ends call code (pc, L, .int n :: r, h) res := by
  subst hN
  refine en_step hc (y := (pc + 2, L, .ref h.2.1 :: r, u_new h (arrc zcl t n.toNatClampNeg 0 0) n.toNatClampNeg)) ?_ ?_
  · show (if n < 0 ∨ ¬ n.toNatClampNeg ≤ 1000000 then none else match u_zero t n.toNatClampNeg with | some e => some (.inl (pc + 2, L, .ref h.2.1 :: r, u_new h e n.toNatClampNeg)) | none => none : UO) = _
    rw [if_neg hn, hz]
  · rw [hW.2.1]
    exact kk _ (hw_newz hW t _) (adz_x hW t _) (by rw [adz_k, if_pos rfl]) (by rw [adz_n, if_pos rfl])
theorem en_naz {n : Int32} {x t N : Nat} (hc : code pc = some (.anewarray x, [t])) (hW : HW w d h) (hn : ¬ (n < 0 ∨ ¬ n.toNatClampNeg ≤ 1000000)) (hN : n.toNatClampNeg = N) (hz : .inl (t, N, .inr (.inr (.inr (.inr u_none)))) = arrc zcl t N 0 0) (kk : ∀ h' : UH, HW w (adz d t N) h' → Adx d (adz d t N) → aK (adz d t N) (aX d) = (4, t, 0) → aN (adz d t N) (aX d) = N → Ends call code (pc + 3, L, .ref (aX d) :: r, h') res) : Ends call code (pc, L, .int n :: r, h) res := by
  subst hN
  refine en_step hc (y := (pc + 3, L, .ref h.2.1 :: r, u_new h (arrc zcl t n.toNatClampNeg 0 0) n.toNatClampNeg)) ?_ ?_
  · show (if n < 0 ∨ ¬ n.toNatClampNeg ≤ 1000000 then none else some (.inl (pc + 3, L, .ref h.2.1 :: r, u_new h (.inl (t, n.toNatClampNeg, .inr (.inr (.inr (.inr u_none))))) n.toNatClampNeg)) : UO) = _
    rw [if_neg hn, hz]
  · rw [hW.2.1]
    exact kk _ (hw_newz hW t _) (adz_x hW t _) (by rw [adz_k, if_pos rfl]) (by rw [adz_n, if_pos rfl])
end Rows7
