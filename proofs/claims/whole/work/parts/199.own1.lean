/-! ===== one object that is made ===== -/
section Rows8
variable {h : UH} {w : Wd} {d : Ad}
/-- fields of a new object -/
def zat (x : Cl) (a : Nat) : Cl := (fun k b => if b = a then 0 else cI x k b, fun k b => if b = a then 0 else cJ x k b, fun k b => if b = a then 0 else cR x k b, fun k b => if b = a then fun _ => 0 else cA x k b, fun k b => if b = a then fun _ => 0 else cB x k b, fun k b => if b = a then fun _ => none else cQ x k b)
/-- which slot's array lies there -/
def ownS (X : Nat) (l : List (Option Nat)) (b : Nat) : Option Nat := if X ≤ b then (l[b - X]?).join else none
/-- the object a, whose arrays lie from X on -/
def own (d : Ad) (c a X : Nat) (l : List (Option Nat)) : Ad := (fun b => if b = a then (0, c, 0) else match ownS X l b with | some k => (1, c, k) | none => aK d b, fun c' k b => if b = a then X + l.idxOf (some k) else aP d c' k b, fun b => match ownS X l b with | some _ => a | none => aO d b, d.2.2.2)
theorem ownS_i {X i k : Nat} {l : List (Option Nat)} (e : l[i]? = some (some k)) : ownS X l (X + i) = some k := by
  unfold ownS; rw [if_pos (Nat.le_add_right _ _), Nat.add_sub_cancel_left, e]; rfl
theorem ownS_n {X b : Nat} {l : List (Option Nat)} (e : ¬ ∃ i k, l[i]? = some (some k) ∧ b = X + i) : ownS X l b = none := by
  unfold ownS
  split
  · rename_i g
    cases q : l[b - X]? with
    | none => rfl
    | some z => cases z with
      | none => rfl
      | some k => exact absurd ⟨b - X, k, q, by omega⟩ e
  · rfl
theorem own_K (d : Ad) (c a X : Nat) (l : List (Option Nat)) (b : Nat) : aK (own d c a X l) b = if b = a then (0, c, 0) else match ownS X l b with | some k => (1, c, k) | none => aK d b := rfl
theorem own_O (d : Ad) (c a X : Nat) (l : List (Option Nat)) (b : Nat) : aO (own d c a X l) b = match ownS X l b with | some _ => a | none => aO d b := rfl
theorem own_P (d : Ad) (c a X : Nat) (l : List (Option Nat)) (c' k b : Nat) : aP (own d c a X l) c' k b = if b = a then X + l.idxOf (some k) else aP d c' k b := rfl
theorem hw_own1 (hW : HW w d h) {c a X : Nat} {l : List (Option Nat)} {x : Cl} (hc : c < 13) (hk : aK d a = (3, c, 0)) (hl : ∀ i k, l[i]? = some (some k) → k < nsl c ∧ l.idxOf (some k) = i)
    (ht : ∀ i k, l[i]? = some (some k) → aK d (X + i) = (4, (sd c k).2.1, 0) ∧ aN d (X + i) = (sd c k).2.2)
    (hx : ∀ k b, b ≠ a → cI x k b = cI (wg c w) k b ∧ cJ x k b = cJ (wg c w) k b ∧ cR x k b = cR (wg c w) k b ∧ cA x k b = cA (wg c w) k b ∧ cB x k b = cB (wg c w) k b ∧ cQ x k b = cQ (wg c w) k b)
    (hz : ∀ k, cA x k a = (fun _ => 0) ∧ cB x k a = (fun _ => 0) ∧ cQ x k a = fun _ => none)
    (hf : aF d a = flds (ws c w x) (own d c a X l) c a) (hw : ∀ k, k < nsl c → wfs (ws c w x) (own d c a X l) c k a) : HW (ws c w x) (own d c a X l) h := by
  have hne : ∀ i k, l[i]? = some (some k) → X + i ≠ a := fun i k e q => by
    have := (ht i k e).1; rw [q, hk] at this; cases this
  refine hw_own hW (fun b => b = a) (fun b => ∃ i k, l[i]? = some (some k) ∧ b = X + i) rfl rfl rfl rfl rfl rfl (fun b g1 g2 => ?_) (fun b c' k g => ?_) (fun b g => ?_) (fun c' k b g1 g2 => ?_) ?_ (fun b g => ?_) (fun b g => ?_)
  · rw [own_K, if_neg g1, ownS_n g2]
  · rw [own_P, if_neg g]
  · rw [own_O, ownS_n g]
  · by_cases e : c' = c
    · subst e
      rw [wg_ws w x (by omega)]
      exact hx k b g2
    · rw [wg_ne w x (by omega) (by omega) e]
      exact ⟨rfl, rfl, rfl, rfl, rfl, rfl⟩
  · exact wg_ne w x (by omega) (by omega) (by omega)
  · have g' : b = a := g
    subst g'
    exact ⟨c, hc, hk, by rw [own_K, if_pos rfl], hf, hw⟩
  · obtain ⟨i, k, e, rfl⟩ := g
    have eO : aO (own d c a X l) (X + i) = a := by rw [own_O, ownS_i e]
    refine ⟨(sd c k).2.1, c, k, (ht i k e).1, by rw [own_K, if_neg (hne i k e), ownS_i e], by rw [eO, own_K, if_pos rfl], (hl i k e).1, by rw [eO, own_P, if_pos rfl, (hl i k e).2], ?_⟩
    rw [eO, wg_ws w x (by omega), (ht i k e).2]
    unfold arrc
    rw [(hz k).1, (hz k).2.1, (hz k).2.2]
    rfl
end Rows8
