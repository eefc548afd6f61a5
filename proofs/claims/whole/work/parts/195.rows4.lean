/-! ===== rows: what is new; null ===== -/
theorem Adx.rf {d : Ad} : Adx d d := ⟨Nat.le_refl _, fun _ _ => rfl, fun _ _ _ _ => rfl, fun _ _ _ => rfl, fun _ _ _ _ => rfl, rfl, rfl, fun _ _ _ => rfl⟩
theorem Adx.o {d e : Ad} (hx : Adx d e) {a c k : Nat} (h : aK d a = (0, c, k)) : aK e a = (0, c, k) := by
  rw [hx.2.1 a (by rw [h]; exact fun q => by cases q)]; exact h
theorem Adx.f {d e : Ad} (hx : Adx d e) {a t k : Nat} (h : aK d a = (2, t, k)) : aK e a = (2, t, k) := by
  rw [hx.2.1 a (by rw [h]; exact fun q => by cases q)]; exact h
theorem Adx.z {d e : Ad} (hx : Adx d e) {a t k : Nat} (h : aK d a = (4, t, k)) : aK e a = (4, t, k) := by
  rw [hx.2.1 a (by rw [h]; exact fun q => by cases q)]; exact h
theorem Adx.w {d e : Ad} (hx : Adx d e) {a c k : Nat} (h : aK d a = (3, c, k)) : aK e a = (3, c, k) ∧ aF e a = aF d a := by
  refine ⟨?_, hx.2.2.2.2.1 a c k h⟩
  rw [hx.2.1 a (by rw [h]; exact fun q => by cases q)]; exact h
section Rows4
variable {call : Nat → List Value → UH → UR → Prop} {code : Nat → Option UI} {pc : Nat} {L : List (Option Value)} {r st : List Value} {h : UH} {res : UR → Prop} {w w' : Wd} {d : Ad}
def nwI (c : Cl) (d : Ad) (n : Int32) : Option (Cl × Ad) := if n < 0 ∨ ¬ n.toNatClampNeg ≤ 1000000 then none else some (sA c 0 (aX d) (fun _ => 0), adn d 1 n.toNatClampNeg)
def nwL (c : Cl) (d : Ad) (n : Int32) : Option (Cl × Ad) := if n < 0 ∨ ¬ n.toNatClampNeg ≤ 1000000 then none else some (sB c 0 (aX d) (fun _ => 0), adn d 2 n.toNatClampNeg)
theorem adn_k (d : Ad) (t n a : Nat) : aK (adn d t n) a = if a = aX d then (2, t, 0) else aK d a := rfl
theorem adn_x (hW : HW w d h) (t n : Nat) : Adx d (adn d t n) := by
  refine ⟨Nat.le_succ _, fun a ha => ?_, fun _ _ _ _ => rfl, fun a t' ha => ?_, fun _ _ _ _ => rfl, rfl, rfl, fun a t' ha => ?_⟩
  · rw [adn_k, if_neg]
    intro q; subst q; exact ha (hW.2.2.2.2.2.2.1 _ (Nat.le_refl _))
  · have : a ≠ aX d := fun q => by subst q; rw [hW.2.2.2.2.2.2.1 _ (Nat.le_refl _)] at ha; cases ha
    show va_up (aN d) (aX d) n a = aN d a
    unfold va_up; rw [if_neg this]
  · have : a ≠ aX d := fun q => by subst q; rw [hW.2.2.2.2.2.2.1 _ (Nat.le_refl _)] at ha; cases ha
    show va_up (aN d) (aX d) n a = aN d a
    unfold va_up; rw [if_neg this]
/-- the world with one row more that nobody owns -/
theorem hw_new (hW : HW w d h) {t n : Nat} {x : Cl} (hn : n ≤ 1000000) (hQ : cQ x = cQ (wg 13 w)) (hA : ∀ j b, ¬ (j = 0 ∧ b = aX d) → cA x j b = cA (wg 13 w) j b) (hB : ∀ j b, ¬ (j = 0 ∧ b = aX d) → cB x j b = cB (wg 13 w) j b) : HW (ws 13 w x) (adn d t n) (u_new h (arrc x t n 0 (aX d)) n) := by
  have hne : ∀ {a : Nat} {y : Nat × Nat × Nat}, aK d a = y → y.1 ≠ 9 → a ≠ aX d := fun {a y} e1 e2 q => by
    subst q; rw [hW.2.2.2.2.2.2.1 _ (Nat.le_refl _)] at e1; subst e1; exact e2 rfl
  have hx := adn_x hW t n
  have hwf : ∀ c' k' q, c' < 13 → fval (ws 13 w x) (adn d t n) c' k' q = fval w d c' k' q := fun c' k' q hc => by
    have := fval_eq (d := d) (w := w) (x := x) (c := 13) (by omega) hc k' q (fun z => by omega) (fun z => by omega) (fun z => by omega)
    exact this
  refine ⟨fun q => ?_, by show h.2.1 + 1 = aX d + 1; rw [hW.2.1], by show h.2.2 + n = aS d + n; rw [hW.2.2.1], ?_, fun a c k hk => ?_, fun a c k hk => ?_, fun a ha => ?_, fun a t' k ha => ?_⟩
  · show va_up h.1 h.2.1 _ q = _
    unfold va_up
    rw [hW.2.1]
    by_cases hq : q = aX d
    · rw [if_pos hq]
      unfold cellOf
      rw [adn_k, if_pos hq]
      show _ = arrc (wg 13 (ws 13 w x)) t (va_up (aN d) (aX d) n q) 0 q
      rw [wg_ws w x (by omega)]
      unfold va_up
      rw [if_pos hq, hq]
    · rw [if_neg hq, hW.1 q]
      unfold cellOf
      rw [adn_k, if_neg hq]
      split
      · rename_i c j hk
        unfold flds
        congr 2
        exact List.map_congr_left fun k _ => (hwf c k q (hW.2.2.2.2.1 q c j hk).2).symm
      · rename_i c k hk
        have hc := (hW.2.2.2.2.1 _ c 0 (hW.2.2.2.2.2.1 q c k hk).1).2
        show _ = arrc (wg c (ws 13 w x)) _ _ k (aO d q)
        rw [wg_ne w x (by omega) (by omega) (by omega)]
      · rename_i t' j hk
        show _ = arrc (wg 13 (ws 13 w x)) t' (va_up (aN d) (aX d) n q) 0 q
        rw [wg_ws w x (by omega)]
        unfold va_up arrc
        rw [if_neg hq, hA 0 q (fun z => hq z.2), hB 0 q (fun z => hq z.2), hQ]
      · rfl
      · rename_i t' j hk
        show _ = arrc zcl t' (va_up (aN d) (aX d) n q) 0 0
        unfold va_up
        rw [if_neg hq]
      · rfl
      · rfl
  · intro a c hk k hn'
    rw [adn_k] at hk
    by_cases ha : a = aX d
    · rw [if_pos ha] at hk; cases hk
    · rw [if_neg ha] at hk
      have hf := hW.2.2.2.1 a c hk k hn'
      have hc := (hW.2.2.2.2.1 a c 0 hk).2
      unfold wfs at hf ⊢
      rw [wg_ne w x (by omega) (by omega) (by omega)]
      split
      · rename_i y _ e; rw [e] at hf; exact hx.o hf
      · rename_i y _ e; rw [e] at hf
        refine ⟨?_, hf.2.1, fun z j q hq => hx.o (hf.2.2 z j q hq)⟩
        show aK (adn d t n) (aP d c k a) = _
        rw [adn_k, if_neg (hne hf.1 (show (1 : Nat) ≠ 9 by decide))]; exact hf.1
      · rename_i y _ e; rw [e] at hf; exact hx.f hf
      · rename_i e; rw [e] at hf; exact hx.o hf
      · trivial
  · rw [adn_k] at hk
    split at hk
    · cases hk
    · exact hW.2.2.2.2.1 a c k hk
  · rw [adn_k] at hk
    split at hk
    · cases hk
    · obtain ⟨g1, g2, g3⟩ := hW.2.2.2.2.2.1 a c k hk
      exact ⟨hx.o g1, g2, g3⟩
  · have ha' : aX d + 1 ≤ a := ha
    rw [adn_k, if_neg (by omega)]
    exact hW.2.2.2.2.2.2.1 a (by omega)
  · rw [adn_k] at ha
    show va_up (aN d) (aX d) n a ≤ _
    unfold va_up
    split
    · exact hn
    · rename_i z; rw [if_neg z] at ha; exact hW.2.2.2.2.2.2.2 a t' k ha
theorem en_newL {n : Int32} {z : Cl × Ad} (hc : code pc = some (.newarray .long, [2])) (hW : HW w d h) (hv : nwL (wg 13 w) d n = some z) (kk : ∀ h' : UH, HW (ws 13 w z.1) z.2 h' → Adx d z.2 → aK z.2 (aX d) = (2, 2, 0) → Ends call code (pc + 2, L, .ref (aX d) :: r, h') res) : Ends call code (pc, L, .int n :: r, h) res := by
  unfold nwL at hv
  split at hv
  · cases hv
  · rename_i e
    cases hv
    refine en_step (y := (pc + 2, L, .ref h.2.1 :: r, u_new h (.inl (2, n.toNatClampNeg, .inr (.inl (fun _ => 0)))) n.toNatClampNeg)) hc (show (if n < 0 ∨ ¬ n.toNatClampNeg ≤ 1000000 then none else some (.inl (pc + 2, L, .ref h.2.1 :: r, u_new h (.inl (2, n.toNatClampNeg, .inr (.inl (fun _ => 0)))) n.toNatClampNeg)) : UO) = _ by rw [if_neg e]) ?_
    rw [hW.2.1]
    have := hw_new (t := 2) (n := n.toNatClampNeg) (x := sB (wg 13 w) 0 (aX d) (fun _ => 0)) hW (Classical.not_not.mp fun q => e (Or.inr q)) rfl (fun j b z => rfl) (fun j b z => up2_ne _ _ z)
    have e2 : arrc (sB (wg 13 w) 0 (aX d) (fun _ => 0)) 2 n.toNatClampNeg 0 (aX d) = .inl (2, n.toNatClampNeg, .inr (.inl (fun _ => 0))) := by simp only [arrc, sB, cB]; rw [up2_same]
    rw [e2] at this
    exact kk _ this (adn_x hW 2 _) (by rw [adn_k, if_pos rfl])
theorem en_newI {n : Int32} {z : Cl × Ad} (hc : code pc = some (.newarray .int, [1])) (hW : HW w d h) (hv : nwI (wg 13 w) d n = some z) (kk : ∀ h' : UH, HW (ws 13 w z.1) z.2 h' → Adx d z.2 → aK z.2 (aX d) = (2, 1, 0) → Ends call code (pc + 2, L, .ref (aX d) :: r, h') res) : Ends call code (pc, L, .int n :: r, h) res := by
  unfold nwI at hv
  split at hv
  · cases hv
  · rename_i e
    cases hv
    refine en_step (y := (pc + 2, L, .ref h.2.1 :: r, u_new h (.inl (1, n.toNatClampNeg, .inl (fun _ => 0))) n.toNatClampNeg)) hc (show (if n < 0 ∨ ¬ n.toNatClampNeg ≤ 1000000 then none else some (.inl (pc + 2, L, .ref h.2.1 :: r, u_new h (.inl (1, n.toNatClampNeg, .inl (fun _ => 0))) n.toNatClampNeg)) : UO) = _ by rw [if_neg e]) ?_
    rw [hW.2.1]
    have := hw_new (t := 1) (n := n.toNatClampNeg) (x := sA (wg 13 w) 0 (aX d) (fun _ => 0)) hW (Classical.not_not.mp fun q => e (Or.inr q)) rfl (fun j b z => up2_ne _ _ z) (fun j b z => rfl)
    have e2 : arrc (sA (wg 13 w) 0 (aX d) (fun _ => 0)) 1 n.toNatClampNeg 0 (aX d) = .inl (1, n.toNatClampNeg, .inl (fun _ => 0)) := by simp only [arrc, sA, cA]; rw [up2_same]
    rw [e2] at this
    exact kk _ this (adn_x hW 1 _) (by rw [adn_k, if_pos rfl])
theorem en_nl {t : Nat} {o : Int} {v : Option Nat} (hc : code pc = some (.ifnull o, [t])) (k1 : v = none → Ends call code (t, L, r, h) res) (k2 : ¬ v = none → Ends call code (pc + 3, L, r, h) res) : Ends call code (pc, L, va_rf v :: r, h) res := by
  cases v with
  | none => exact en_step hc rfl (k1 rfl)
  | some q => exact en_step hc rfl (k2 (fun z => by cases z))
theorem en_nn {t : Nat} {o : Int} {v : Option Nat} (hc : code pc = some (.ifnonnull o, [t])) (k1 : v = none → Ends call code (pc + 3, L, r, h) res) (k2 : ¬ v = none → Ends call code (t, L, r, h) res) : Ends call code (pc, L, va_rf v :: r, h) res := by
  cases v with
  | none => exact en_step hc rfl (k1 rfl)
  | some q => exact en_step hc rfl (k2 (fun z => by cases z))
theorem Adx.trans {d e f : Ad} (h1 : Adx d e) (h2 : Adx e f) : Adx d f := by
  refine ⟨Nat.le_trans h1.1 h2.1, fun a ha => ?_, fun a c k ha => ?_, fun a t ha => ?_, fun a c k ha => ?_, h2.2.2.2.2.2.1.trans h1.2.2.2.2.2.1, h2.2.2.2.2.2.2.1.trans h1.2.2.2.2.2.2.1, fun a t ha => ?_⟩
  · have g := h1.2.1 a ha
    rw [h2.2.1 a (by rw [g]; exact ha), g]
  · rw [h2.2.2.1 a c k (h1.o ha), h1.2.2.1 a c k ha]
  · rw [h2.2.2.2.1 a t (h1.f ha), h1.2.2.2.1 a t ha]
  · rw [(h2.w (h1.w ha).1).2, (h1.w ha).2]
  · rw [h2.2.2.2.2.2.2.2 a t (h1.z ha), h1.2.2.2.2.2.2.2 a t ha]
end Rows4
