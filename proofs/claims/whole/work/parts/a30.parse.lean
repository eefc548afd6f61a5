/-! ===== rules: a pure reader; the class's is it ===== -/
/-- place, values, how many signs, the signs -/
abbrev Ps : Type := Nat × Nat × Nat × (Nat → Nat)
abbrev Pr : Type := Sum Nat Ps
def rP (x : Ps) : Nat := x.1
def rV (x : Ps) : Nat := x.2.1
def rK (x : Ps) : Nat := x.2.2.1
def rC (x : Ps) : Nat → Nat := x.2.2.2
def pb (r : Pr) (f : Ps → Pr) : Pr := match r with | .inl e => .inl e | .inr x => f x
def pput (s : Nat) (x : Ps) : Ps := if rK x < 400 then (rP x, rV x, rK x + 1, un (rC x) (rK x) s) else x
def pskx (u : Nat → Nat) (l : Nat) (x : Ps) : Ps := (skp u l (rP x), rV x, rK x, rC x)
def pinc (x : Ps) : Ps := (rP x, rV x + 1, rK x, rC x)
def pval (u : Nat → Nat) (l : Nat) (x : Ps) : Pr :=
  if kd u l (rP x) = 31 then .inl (flt (rP x) 1)
  else if kd u l (rP x) < 12 ∨ kd u l (rP x) = 30 then (if 60 ≤ rV x then .inl (flt (rP x) 3) else .inr (pskx u l (pput (if kd u l (rP x) = 30 then 100 + nv u l (rP x) else kd u l (rP x)) (pinc x))))
  else .inl (flt (rP x) 0)
def pdue (o : Option Nat) (x : Ps) : Ps := match o with | none => x | some s => pput s x
def psl (u : Nat → Nat) (l : Nat) : Nat → Option Nat → Ps → Pr
  | 0, o, x => .inr (pdue o x)
  | m + 1, o, x =>
    if kd u l (rP x) = 142 then pb (pval u l (pskx u l x)) (fun y => psl u l m o (pput 22 y))
    else if kd u l (rP x) = 147 then pb (pval u l (pskx u l x)) (fun y => psl u l m o (pput 23 y))
    else if kd u l (rP x) = 143 then pb (pval u l (pdue o (pskx u l x))) (psl u l m (some 20))
    else if kd u l (rP x) = 145 then pb (pval u l (pdue o (pskx u l x))) (psl u l m (some 21))
    else .inr (pdue o x)
def psum (u : Nat → Nat) (l : Nat) (x : Ps) : Pr := pb (pval u l x) (psl u l 400 none)
def psig (k : Nat) : Option Nat := if k = 32 then some 25 else if k = 33 then some 27 else if k = 160 then some 24 else if k = 161 then some 26 else if k = 162 then some 28 else none
/-- the sign of a fact -/
def psgn (u : Nat → Nat) (l : Nat) (x : Ps) : Pr := match psig (kd u l (rP x)) with | none => .inl (flt (rP x) 0) | some _ => if 60 ≤ rV x then .inl (flt (rP x) 3) else .inr (pskx u l (pinc x))
def pcmp (u : Nat → Nat) (l : Nat) (x : Ps) : Pr := pb (psum u l x) (fun y => pb (psgn u l y) (fun z => pb (psum u l z) (fun w => .inr (pput ((psig (kd u l (rP y))).getD 0) w))))
def por (b : Bool) (x : Ps) : Ps := if b = true then pput 30 x else x
def ptl (u : Nat → Nat) (l : Nat) (pf : Ps → Pr) : Nat → Bool → Ps → Pr
  | 0, b, x => .inr (por b x)
  | m + 1, b, x =>
    if kd u l (rP x) = 20 then pb (pf (pskx u l x)) (fun y => ptl u l pf m b (pput 29 y))
    else if kd u l (rP x) = 21 then pb (pf (por b (pskx u l x))) (ptl u l pf m true)
    else .inr (por b x)
def pcls (u : Nat → Nat) (l : Nat) (y : Ps) : Pr := if kd u l (rP y) = 193 then .inr (pskx u l y) else .inl (flt (rP y) 0)
def pfa (u : Nat → Nat) (l : Nat) : Nat → Ps → Pr
  | 0, x => if kd u l (rP x) = 22 ∨ kd u l (rP x) = 191 then .inl (flt (rP x) 2) else pcmp u l x
  | e + 1, x =>
    if kd u l (rP x) = 22 then pb (pfa u l e (pskx u l x)) (fun y => .inr (pput 31 y))
    else if kd u l (rP x) = 191 then pb (pb (pfa u l e (pskx u l x)) (ptl u l (pfa u l e) 400 false)) (pcls u l)
    else pcmp u l x
def ptest (u : Nat → Nat) (l : Nat) (x : Ps) : Pr := pb (pfa u l 10 x) (ptl u l (pfa u l 10) 400 false)
section Parse
variable {c3 c5 : Cl} {rd ru : Nat} {u : Nat → Nat} {l : Nat}
def RXo (rd ru : Nat) (u : Nat → Nat) (l : Nat) (c3 c5 : Cl) (x : Ps) : Prop := (RD c3 rd u l (rP x) ∧ cI c3 7 rd = 0) ∧ cI c5 2 ru = nI (rK x) ∧ rK x ≤ 400 ∧ cI c5 3 ru = nI (rV x) ∧ rV x ≤ 60 ∧ (∀ i, i < rK x → cA c5 1 ru i = nI (rC x i)) ∧ cR c5 0 ru = rd
def RXb (rd ru : Nat) (u : Nat → Nat) (l : Nat) (c3 c5 : Cl) (f : Nat) : Prop := (∃ p, RD c3 rd u l p) ∧ cI c3 7 rd = nI f ∧ 1 ≤ f ∧ f < 10000 ∧ (∃ k, k ≤ 400 ∧ cI c5 2 ru = nI k) ∧ (∃ v, v ≤ 60 ∧ cI c5 3 ru = nI v) ∧ cR c5 0 ru = rd
def RI (rd ru : Nat) (u : Nat → Nat) (l : Nat) (r : Pr) (c3 c5 : Cl) : Prop := match r with | .inl f => RXb rd ru u l c3 c5 f | .inr x => RXo rd ru u l c3 c5 x
def Fr (rd ru : Nat) (c3 c5 c3' c5' : Cl) : Prop := Kp [6, 7] c3 c3' ∧ Oth rd c3 c3' ∧ Kp [1, 2, 3] c5 c5' ∧ Oth ru c5 c5'
theorem fr_rf : Fr rd ru c3 c5 c3 c5 := ⟨kp_rf _ _, oth_rf _ _, kp_rf _ _, oth_rf _ _⟩
theorem fr_tr {a b a' b' a'' b'' : Cl} (h : Fr rd ru a b a' b') (h' : Fr rd ru a' b' a'' b'') : Fr rd ru a b a'' b'' := ⟨kp_tr h.1 h'.1, oth_tr h.2.1 h'.2.1, kp_tr h.2.2.1 h'.2.2.1, oth_tr h.2.2.2 h'.2.2.2⟩
theorem RI_rd {r : Pr} (h : RI rd ru u l r c3 c5) : cR c5 0 ru = rd ∧ ∃ p, RD c3 rd u l p := by
  cases r with
  | inl f => exact ⟨h.2.2.2.2.2.2, h.1⟩
  | inr x => exact ⟨h.2.2.2.2.2.2, rP x, h.1.1⟩
theorem pb_b (r : Pr) (f g : Ps → Pr) : pb (pb r f) g = pb r (fun x => pb (f x) g) := by cases r <;> rfl
/-- a sign is put -/
theorem f_43 {r : Pr} {s : Nat} (h : RI rd ru u l r c3 c5) : Rn (F_43 c5 ru (nI s)) (fun c5' => (Kp [1, 2, 3] c5 c5' ∧ Oth ru c5 c5') ∧ RI rd ru u l (pb r (fun x => .inr (pput s x))) c3 c5') := by
  have key : ∀ k, k ≤ 400 → cI c5 2 ru = nI k → Rn (F_43 c5 ru (nI s)) (fun c5' => (Kp [1, 2, 3] c5 c5' ∧ Oth ru c5 c5') ∧ cI c5' 3 ru = cI c5 3 ru ∧ cR c5' 0 ru = cR c5 0 ru ∧ ((k < 400 ∧ cI c5' 2 ru = nI (k + 1) ∧ cA c5' 1 ru = upd (cA c5 1 ru) k (nI s)) ∨ (k = 400 ∧ c5' = c5))) := fun k hk e => by
    unfold F_43
    rw [e]
    by_cases w : k < 400
    · refine rn_e (v := sI (sA c5 1 ru (upd (cA c5 1 ru) k (nI s))) 2 ru (nI (k + 1))) (in_neg (show ¬ nI 400 ≤ nI k from nI_ge w (by decide)) (ob_mk (ast_ok w (by decide)) (ob_mk (v := sI (sA c5 1 ru (upd (cA c5 1 ru) k (nI s))) 2 ru (nI (k + 1))) ?_ rfl))) (rn_r ⟨⟨kp_tr (kp_A (by decide)) (kp_I (by decide)), oth_tr oth_A oth_I⟩, ?_, ?_, Or.inl ⟨w, ?_, ?_⟩⟩)
      · rw [show cI (sA c5 1 ru (upd (cA c5 1 ru) k (nI s))) 2 ru = nI k from e, nI_1]
      · simp only [cI_sI, cI_sJ, cI_sR, cI_sA, cI_sB, cI_sQ, cR_sI, cR_sJ, cR_sR, cR_sA, cR_sB, cR_sQ, cA_sI, cA_sJ, cA_sR, cA_sA, cA_sB, cA_sQ, Nat.reduceEqDiff, false_and, and_false, and_true, true_and, if_false, if_true, and_self, ↓reduceIte]
      · simp only [cI_sI, cI_sJ, cI_sR, cI_sA, cI_sB, cI_sQ, cR_sI, cR_sJ, cR_sR, cR_sA, cR_sB, cR_sQ, cA_sI, cA_sJ, cA_sR, cA_sA, cA_sB, cA_sQ, Nat.reduceEqDiff, false_and, and_false, and_true, true_and, if_false, if_true, and_self, ↓reduceIte]
      · rw [cI_same]
      · simp only [cI_sI, cI_sJ, cI_sR, cI_sA, cI_sB, cI_sQ, cR_sI, cR_sJ, cR_sR, cR_sA, cR_sB, cR_sQ, cA_sI, cA_sJ, cA_sR, cA_sA, cA_sB, cA_sQ, Nat.reduceEqDiff, false_and, and_false, and_true, true_and, if_false, if_true, and_self, ↓reduceIte]
    · have : k = 400 := by omega
      subst this
      exact rn_e (v := c5) (if_pos (by decide)) (rn_r ⟨⟨kp_rf _ _, oth_rf _ _⟩, rfl, rfl, Or.inr ⟨rfl, rfl⟩⟩)
  cases r with
  | inl f =>
    obtain ⟨h1, h2, h3, h4, ⟨k, hk, ek⟩, ⟨v, hv, ev⟩, h7⟩ := h
    refine rn_m (key k hk ek) (fun c5' ⟨a, b, c, e⟩ => ⟨a, h1, h2, h3, h4, ?_, ⟨v, hv, by rw [b]; exact ev⟩, by rw [c]; exact h7⟩)
    rcases e with ⟨e1, e2, _⟩ | ⟨e1, e2⟩
    · exact ⟨k + 1, by omega, e2⟩
    · exact ⟨k, hk, by rw [e2]; exact ek⟩
  | inr x =>
    obtain ⟨h1, h2, h3, h4, h5, h6, h7⟩ := id h
    refine rn_m (key (rK x) h3 h2) (fun c5' ⟨a, b, c, e⟩ => ⟨a, ?_⟩)
    show RXo rd ru u l c3 c5' (pput s x)
    unfold pput
    rcases e with ⟨e1, e2, e3⟩ | ⟨e1, e2⟩
    · rw [if_pos e1]
      refine ⟨h1, e2, by show rK x + 1 ≤ 400; omega, by rw [b]; exact h4, h5, fun i hi => ?_, by rw [c]; exact h7⟩
      have hi' : i < rK x + 1 := hi
      show cA c5' 1 ru i = nI (un (rC x) (rK x) s i)
      rw [e3]
      by_cases w : i = rK x
      · rw [w, pk_us, un_s]
      · rw [pk_un w, un_n w]; exact h6 i (by omega)
    · rw [if_neg (by omega), e2]; exact h
/-- a piece is left behind -/
theorem f_31x {r : Pr} (h : RI rd ru u l r c3 c5) : Rn (F_31 c3 rd) (fun c3' => (Kp [6, 7] c3 c3' ∧ Oth rd c3 c3') ∧ RI rd ru u l (pb r (fun x => .inr (pskx u l x))) c3' c5) := by
  cases r with
  | inl f =>
    obtain ⟨⟨p, h1⟩, h2, h3⟩ := h
    exact rn_m (f_31 h1) (fun c3' ⟨a, b, e⟩ => ⟨⟨kp_wd a (by decide), b⟩, ⟨_, e⟩, by rw [(a 7 (by decide)).1]; exact h2, h3⟩)
  | inr x =>
    obtain ⟨⟨h1, h2⟩, h3⟩ := h
    exact rn_m (f_31 h1) (fun c3' ⟨a, b, e⟩ => ⟨⟨kp_wd a (by decide), b⟩, ⟨e, by rw [(a 7 (by decide)).1]; exact h2⟩, h3⟩)
/-- a fault -/
theorem f_28x {r : Pr} {w : Nat} (l4 : l ≤ 400) (hw : w < 8) (h : RI rd ru u l r c3 c5) : Rn (F_28 c3 rd (nI w)) (fun c3' => (Kp [6, 7] c3 c3' ∧ Oth rd c3 c3') ∧ RI rd ru u l (pb r (fun x => .inl (flt (rP x) w))) c3' c5) := by
  cases r with
  | inl f =>
    obtain ⟨⟨p, h1⟩, h2, h3, h4, h5⟩ := h
    refine rn_m (f_28 (w := w) h1) (fun c3' ⟨a, b, e, _, g⟩ => ⟨⟨kp_wd a (by decide), b⟩, ⟨_, e⟩, ?_, h3, h4, h5⟩)
    rw [g (by rw [h2]; exact nI_ne0 (by omega) (by omega))]; exact h2
  | inr x =>
    obtain ⟨⟨h1, h2⟩, h3, h4, h5, h6, h7, h8⟩ := h
    have pl := RD_le h1
    refine rn_m (f_28 (w := w) h1) (fun c3' ⟨a, b, e, g, _⟩ => ⟨⟨kp_wd a (by decide), b⟩, ⟨_, e⟩, g h2, by unfold flt; omega, by unfold flt; omega, ⟨rK x, h4, h3⟩, ⟨rV x, h6, h5⟩, h8⟩)
/-- a value -/
theorem f_49 {r : Pr} (hu : ∀ j, u j < 256) (l4 : l ≤ 400) (h : RI rd ru u l r c3 c5) : Rn (F_49 c3 c5 ru) (fun q => Fr rd ru c3 c5 q.1 q.2 ∧ RI rd ru u l (pb r (pval u l)) q.1 q.2) := by
  obtain ⟨e0, p, hp⟩ := RI_rd h
  have kb := kd_b (l := l) (p := p) hu
  unfold F_49
  rw [e0]
  refine rn_e (f_29 hp) ?_
  have bad : ∀ w, w < 8 → (∀ x, r = .inr x → pval u l x = .inl (flt (rP x) w)) → Rn (F_28 c3 rd (nI w) >>= fun r6 => some (r6, c5)) (fun q => Fr rd ru c3 c5 q.1 q.2 ∧ RI rd ru u l (pb r (pval u l)) q.1 q.2) := fun w hw hx => by
    refine rn_b (f_28x l4 hw h) (fun c3' ⟨⟨a, b⟩, e⟩ => rn_r ⟨⟨a, b, kp_rf _ _, oth_rf _ _⟩, ?_⟩)
    cases r with
    | inl f => exact e
    | inr x => show RI rd ru u l (pval u l x) c3' c5; rw [hx x rfl]; exact e
  have pe : ∀ x, r = .inr x → rP x = p ∨ True := fun _ _ => Or.inr trivial
  have kx : ∀ x, r = .inr x → nI (kd u l (rP x)) = nI (kd u l p) := fun x hx => by
    subst hx
    have a := f_29 h.1.1
    rw [f_29 hp] at a
    exact (Option.some.inj a).symm
  have kx' : ∀ x, r = .inr x → kd u l (rP x) = kd u l p := fun x hx => (nI_eq (by have := kd_b (l := l) (p := rP x) hu; omega) (by omega)).mp (kx x hx)
  have vx : ∀ x, r = .inr x → nv u l (rP x) = nv u l p := fun x hx => by
    subst hx
    have a := f_30 h.1.1
    rw [f_30 hp] at a
    have v1 := nv_lt (u := u) (l := l) (p := p)
    have v2 := nv_lt (u := u) (l := l) (p := rP x)
    exact ((nI_eq (by omega) (by omega)).mp (Option.some.inj a)).symm
  by_cases w31 : kd u l p = 31
  · refine rn_e (v := (0 : Int32)) (in_neg (nI_pos (by omega)) (in_pos (show nI 12 ≤ nI (kd u l p) from nI_le (by omega) (by omega)) rfl)) (rn_p (by rw [w31]; rfl) (bad 1 (by decide) (fun x hx => ?_)))
    unfold pval; rw [if_pos (by rw [kx' x hx]; exact w31)]
  have n31 : ¬ nI (kd u l p) = 31 := fun z => w31 ((nI_eq (a := kd u l p) (b := 31) (by omega) (by omega)).mp z)
  -- the value is put
  have good : ∀ (t : Int32), ((t = 0 ∧ kd u l p = 30) ∨ (t = 1 ∧ kd u l p < 12)) → Rn (G_49 c3 c5 ru 0 [nI (kd u l p), t] [] []) (fun q => Fr rd ru c3 c5 q.1 q.2 ∧ RI rd ru u l (pb r (pval u l)) q.1 q.2) := fun t ht => by
    have hk : kd u l p < 12 ∨ kd u l p = 30 := by omega
    rw [G_49, e0]
    have step : ∀ v, v ≤ 60 → cI c5 3 ru = nI v → (∀ x, r = .inr x → rV x = v) → Rn (if (cI c5 3 ru) < 60 then some (sI c5 3 ru ((cI c5 3 ru) + 1)) >>= fun c5_13 => ((if t = 0 then F_30 c3 (cR c5_13 0 ru) >>= fun r21 => some (100 + r21) else some (nI (kd u l p))) : Option (Int32)) >>= fun (t14 : Int32) => F_43 c5_13 ru t14 >>= fun r16 => F_31 c3 (cR r16 0 ru) >>= fun r18 => some (r18, r16) else F_28 c3 rd 3 >>= fun r23 => some (r23, c5)) (fun q => Fr rd ru c3 c5 q.1 q.2 ∧ RI rd ru u l (pb r (pval u l)) q.1 q.2) := fun v hv ev hvx => by
      rw [ev]
      by_cases w : v < 60
      · refine rn_p (show nI v < nI 60 from nI_lt w (by decide)) (rn_s ?_)
        rw [show cR (sI c5 3 ru (nI v + 1)) 0 ru = rd from e0, nI_1]
        obtain ⟨c5a, hc5a⟩ : ∃ c5a, c5a = sI c5 3 ru (nI (v + 1)) := ⟨_, rfl⟩
        rw [← hc5a]
        have ka : Kp [1, 2, 3] c5 c5a := by rw [hc5a]; exact kp_I (by decide)
        have oa : Oth ru c5 c5a := by rw [hc5a]; exact oth_I
        have hI : RI rd ru u l (pb r (fun x => .inr (pinc x))) c3 c5a := by
          cases r with
          | inl f =>
            obtain ⟨g1, g2, g3, g4, ⟨k, gk, gk2⟩, _, g7⟩ := h
            exact ⟨g1, g2, g3, g4, ⟨k, gk, by rw [hc5a]; simp only [cI_sI, cI_sJ, cI_sR, cI_sA, cI_sB, cI_sQ, cR_sI, cR_sJ, cR_sR, cR_sA, cR_sB, cR_sQ, cA_sI, cA_sJ, cA_sR, cA_sA, cA_sB, cA_sQ, Nat.reduceEqDiff, false_and, and_false, and_true, true_and, if_false, if_true, and_self, ↓reduceIte]; exact gk2⟩, ⟨v + 1, by omega, by rw [hc5a]; simp only [cI_sI, cI_sJ, cI_sR, cI_sA, cI_sB, cI_sQ, cR_sI, cR_sJ, cR_sR, cR_sA, cR_sB, cR_sQ, cA_sI, cA_sJ, cA_sR, cA_sA, cA_sB, cA_sQ, Nat.reduceEqDiff, false_and, and_false, and_true, true_and, if_false, if_true, and_self, ↓reduceIte]⟩, by rw [hc5a]; exact g7⟩
          | inr x =>
            obtain ⟨g1, g2, g3, g4, g5, g6, g7⟩ := h
            have hvx' := hvx x rfl
            exact ⟨g1, by rw [hc5a]; simp only [cI_sI, cI_sJ, cI_sR, cI_sA, cI_sB, cI_sQ, cR_sI, cR_sJ, cR_sR, cR_sA, cR_sB, cR_sQ, cA_sI, cA_sJ, cA_sR, cA_sA, cA_sB, cA_sQ, Nat.reduceEqDiff, false_and, and_false, and_true, true_and, if_false, if_true, and_self, ↓reduceIte]; exact g2, g3, by rw [hc5a]; simp only [cI_sI, cI_sJ, cI_sR, cI_sA, cI_sB, cI_sQ, cR_sI, cR_sJ, cR_sR, cR_sA, cR_sB, cR_sQ, cA_sI, cA_sJ, cA_sR, cA_sA, cA_sB, cA_sQ, Nat.reduceEqDiff, false_and, and_false, and_true, true_and, if_false, if_true, and_self, ↓reduceIte]; show nI (v + 1) = nI (rV x + 1); rw [hvx'], by show rV x + 1 ≤ 60; omega, fun i hi => by rw [hc5a]; simp only [cI_sI, cI_sJ, cI_sR, cI_sA, cI_sB, cI_sQ, cR_sI, cR_sJ, cR_sR, cR_sA, cR_sB, cR_sQ, cA_sI, cA_sJ, cA_sR, cA_sA, cA_sB, cA_sQ, Nat.reduceEqDiff, false_and, and_false, and_true, true_and, if_false, if_true, and_self, ↓reduceIte]; exact g6 i hi, by rw [hc5a]; exact g7⟩
        obtain ⟨s, hs⟩ : ∃ s, s = if kd u l p = 30 then 100 + nv u l p else kd u l p := ⟨_, rfl⟩
        refine rn_e (v := nI s) ?_ (rn_b (f_43 (s := s) hI) (fun c5b ⟨⟨kb', ob⟩, hb⟩ => ?_))
        · rcases ht with ⟨t0, k30⟩ | ⟨t1, k12⟩
          · rw [hs, if_pos k30]
            exact in_pos t0 (ob_mk (f_30 hp) (by rw [show (100 : Int32) + nI (nv u l p) = nI (100 + nv u l p) from nI_add 100 _]))
          · have es : s = kd u l p := by rw [hs]; exact if_neg (by omega)
            rw [es]
            exact in_neg (by rw [t1]; decide) rfl
        · rw [(RI_rd hb).1]
          refine rn_b (f_31x hb) (fun c3' ⟨⟨k3, o3⟩, h3⟩ => rn_r ⟨⟨k3, o3, kp_tr ka kb', oth_tr oa ob⟩, ?_⟩)
          cases r with
          | inl f => exact h3
          | inr x =>
            have e1 : pval u l x = .inr (pskx u l (pput s (pinc x))) := by
              unfold pval
              rw [kx' x rfl, vx x rfl, if_neg w31, if_pos hk, if_neg (by rw [hvx x rfl]; omega), ← hs]
            show RI rd ru u l (pval u l x) c3' c5b
            rw [e1]; exact h3
      · refine rn_n (show ¬ nI v < nI 60 from nI_nlt (by omega) (by omega)) (bad 3 (by decide) (fun x hx => ?_))
        unfold pval
        rw [kx' x hx, if_neg w31, if_pos hk, if_pos (by rw [hvx x hx]; omega)]
    cases r with
    | inl f =>
      obtain ⟨_, _, _, _, _, ⟨v, hv, ev⟩, _⟩ := id h
      exact step v hv ev (fun x hx => by cases hx)
    | inr x =>
      exact step (rV x) h.2.2.2.2.1 h.2.2.2.1 (fun y hy => by cases hy; rfl)
  by_cases w12 : kd u l p < 12
  · exact rn_e (v := (1 : Int32)) (in_neg (nI_pos (by omega)) (in_neg (show ¬ nI 12 ≤ nI (kd u l p) from nI_ge w12 (by decide)) rfl)) (rn_n n31 (rn_n (by decide) (good 1 (Or.inr ⟨rfl, w12⟩))))
  · refine rn_e (v := (0 : Int32)) (in_neg (nI_pos (by omega)) (in_pos (show nI 12 ≤ nI (kd u l p) from nI_le (by omega) (by omega)) rfl)) (rn_n n31 (rn_p rfl ?_))
    by_cases w30 : kd u l p = 30
    · exact rn_p (by rw [w30]; rfl) (good 0 (Or.inl ⟨rfl, w30⟩))
    · refine rn_n (fun z => w30 ((nI_eq (a := kd u l p) (b := 30) (by omega) (by omega)).mp z)) (bad 0 (by decide) (fun x hx => ?_))
      unfold pval
      rw [kx' x hx, if_neg w31, if_neg (by omega)]
end Parse
