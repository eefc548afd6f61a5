/-! ===== runs that end, row by row ===== -/
def Ends (call : Nat → List Value → UH → UR → Prop) (code : Nat → Option UI) (x : UC) (res : UR) : Prop := ∃ n, Ux call code n x res
theorem u_fg_rf (L : List (Option Value)) : u_fg L L := ⟨rfl, fun _ _ h => h⟩
section EndsRows
variable {call : Nat → List Value → UH → UR → Prop} {code : Nat → Option UI} {pc : Nat} {L L' : List (Option Value)} {st : List Value} {h : UH} {res : UR} {i : UI} {y : UC}
theorem en_step (hc : code pc = some i) (hs : ustep i (pc, L, st, h) = some (.inl y)) (k : Ends call code y res) : Ends call code (pc, L, st, h) res := by
  obtain ⟨n, hn⟩ := k
  exact ⟨n + 1, L, u_fg_rf L, i, hc, Or.inl ⟨y, hs, hn⟩⟩
theorem en_ret (hc : code pc = some i) (hs : ustep i (pc, L, st, h) = some (.inr res)) : Ends call code (pc, L, st, h) res := ⟨1, L, u_fg_rf L, i, hc, Or.inr (Or.inl hs)⟩
theorem en_call {mi : Nat} {as r : List Value} {v : Option Value} {h' : UH} (hc : code pc = some i) (hu : ucall i st h = some (mi, as, r)) (hk : call mi as h (v, h')) (k : Ends call code (pc + 3, L, v.toList ++ r, h') res) : Ends call code (pc, L, st, h) res := by
  obtain ⟨n, hn⟩ := k
  exact ⟨n + 1, L, u_fg_rf L, i, hc, Or.inr (Or.inr ⟨mi, as, r, v, h', hu, hk, hn⟩)⟩
theorem en_fg (hf : u_fg L L') (k : Ends call code (pc, L', st, h) res) : Ends call code (pc, L, st, h) res := by
  obtain ⟨n, hn⟩ := k
  match n, hn with
  | 0, hn => exact hn.elim
  | n + 1, hn =>
    obtain ⟨L2, hg, rest⟩ := hn
    exact ⟨n + 1, L2, ⟨hg.1.trans hf.1, fun j v hv => hf.2 j v (hg.2 j v hv)⟩, rest⟩
end EndsRows
/-- some steps at once -/
def usteps (code : Nat → Option UI) : Nat → UC → Option UC
  | 0, x => some x
  | n + 1, x => match code x.1 with
    | some i => match ustep i x with
      | some (.inl y) => usteps code n y
      | _ => none
    | none => none
theorem en_steps {call : Nat → List Value → UH → UR → Prop} {code : Nat → Option UI} {res : UR} : ∀ (n : Nat) {x y : UC}, usteps code n x = some y → Ends call code y res → Ends call code x res
  | 0, x, y, hs, k => by cases hs; exact k
  | n + 1, (pc, L, st, h), y, hs, k => by
    unfold usteps at hs
    split at hs
    · rename_i i hc
      split at hs
      · rename_i z hz
        exact en_step hc hz (en_steps n hs k)
      · cases hs
    · cases hs
/-- a stretch of instructions, written out -/
def usegs : List (Nat × UI) → UC → Option UC
  | [], x => some x
  | (p, i) :: r, x => if p = x.1 then match ustep i x with
      | some (.inl y) => usegs r y
      | _ => none
    else none
def u_sub (l : List (Nat × UI)) (kl : List (Nat × UI × Nat)) : Bool := l.all (fun e => decide (u_at kl e.1 = some e.2))
theorem en_segs {call : Nat → List Value → UH → UR → Prop} {kl : List (Nat × UI × Nat)} {res : UR} : ∀ (l : List (Nat × UI)) {x y : UC}, u_sub l kl = true → usegs l x = some y → Ends call (u_at kl) y res → Ends call (u_at kl) x res
  | [], x, y, _, hs, k => by cases hs; exact k
  | (p, i) :: r, (pc, L, st, h), y, hu, hs, k => by
    unfold u_sub at hu
    rw [List.all_cons, Bool.and_eq_true] at hu
    have hc := of_decide_eq_true hu.1
    unfold usegs at hs
    split at hs
    · rename_i e
      dsimp only at e hc
      subst e
      split at hs
      · rename_i z hz
        exact en_step hc hz (en_segs r hu.2 hs k)
      · cases hs
    · cases hs
