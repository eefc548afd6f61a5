/-! ===== rules: sums and tests, the class ===== -/
section Parse2
variable {c3 c5 : Cl} {rd ru : Nat} {u : Nat → Nat} {l : Nat}
theorem RI_p {r : Pr} (h : RI rd ru u l r c3 c5) : cR c5 0 ru = rd ∧ ∃ p, RD c3 rd u l p ∧ (∀ x, r = .inr x → rP x = p ∧ cI c3 7 rd = 0) ∧ (∀ f, r = .inl f → ¬ cI c3 7 rd = 0) := by
  cases r with
  | inl f => exact ⟨h.2.2.2.2.2.2, h.1.choose, h.1.choose_spec, fun x z => (by cases z), fun g _ => by rw [h.2.1]; exact nI_ne0 (by have := h.2.2.1; omega) (by have := h.2.2.2.1; omega)⟩
  | inr x => exact ⟨h.2.2.2.2.2.2, rP x, h.1.1, fun y z => (by cases z; exact ⟨rfl, h.1.2⟩), fun f z => (by cases z)⟩
theorem f_32x {r : Pr} {w : Nat} (hu : ∀ j, u j < 256) (hw : w < 400) (h : RI rd ru u l r c3 c5) : Rn (F_32 c3 rd (nI w)) (fun q => (Kp [6, 7] c3 q.2 ∧ Oth rd c3 q.2) ∧ ((q.1 = 1 ∧ ∃ x, r = .inr x ∧ kd u l (rP x) = w ∧ RI rd ru u l (.inr (pskx u l x)) q.2 c5) ∨ (q.1 = 0 ∧ q.2 = c3 ∧ ∀ x, r = .inr x → kd u l (rP x) ≠ w))) := by
  obtain ⟨e0, p, hp, px, pf⟩ := RI_p h
  refine rn_m (f_32 (w := w) hu hw hp) (fun q ⟨a, b, e⟩ => ⟨⟨kp_wd a (by decide), b⟩, ?_⟩)
  rcases e with ⟨e1, e2, e3, e4⟩ | ⟨e1, e2, e3⟩
  · cases r with
    | inl f => exact absurd e1 (pf f rfl)
    | inr x =>
      have := (px x rfl).1
      refine Or.inl ⟨e3, x, rfl, by rw [this]; exact e2, ⟨?_, by rw [(a 7 (by decide)).1]; exact e1⟩, h.2⟩
      show RD q.2 rd u l (skp u l (rP x))
      rw [this]; exact e4
  · exact Or.inr ⟨e2, e3, fun x hx z => e1 ⟨(px x hx).2, by rw [← (px x hx).1]; exact z⟩⟩
def dI : Option Nat → Int32
  | none => -1
  | some s => nI s
def dok (o : Option Nat) : Prop := o = none ∨ o = some 20 ∨ o = some 21
theorem due_ok {r : Pr} {o : Option Nat} (ho : dok o) (h : RI rd ru u l r c3 c5) : Rn ((if dI o = (-1) then some c5 else F_43 c5 ru (dI o) >>= fun r17 => some r17) : Option Cl) (fun c5' => (Kp [1, 2, 3] c5 c5' ∧ Oth ru c5 c5') ∧ RI rd ru u l (pb r (fun x => .inr (pdue o x))) c3 c5') := by
  rcases ho with e | e | e
  · subst e
    refine rn_p rfl (rn_r ⟨⟨kp_rf _ _, oth_rf _ _⟩, ?_⟩)
    cases r <;> exact h
  · subst e
    exact rn_n (by decide) (rn_b (f_43 (s := 20) h) (fun t ht => rn_r ht))
  · subst e
    exact rn_n (by decide) (rn_b (f_43 (s := 21) h) (fun t ht => rn_r ht))
theorem gl_48 (hu : ∀ j, u j < 256) (l4 : l ≤ 400) : ∀ (m i : Nat) (o : Option Nat) (r : Pr) (c3 c5 : Cl), i + m = 400 → dok o → RI rd ru u l r c3 c5 → Rn (G_48 ru 0 [dI o, nI i] [] [] c3 c5) (fun q => Fr rd ru c3 c5 q.1 q.2 ∧ RI rd ru u l (pb r (psl u l m o)) q.1 q.2) := fun m => by
  have l3 : ∀ (o : Option Nat) (r : Pr) (c3 c5 : Cl), dok o → RI rd ru u l r c3 c5 → Rn (G_48 ru 3 [dI o] [] [] c3 c5) (fun q => Fr rd ru c3 c5 q.1 q.2 ∧ RI rd ru u l (pb r (fun x => .inr (pdue o x))) q.1 q.2) := fun o r c3 c5 ho h => by
    rw [G_48]
    exact rn_b (due_ok ho h) (fun t ⟨⟨a, b⟩, e⟩ => rn_r ⟨⟨kp_rf _ _, oth_rf _ _, a, b⟩, e⟩)
  induction m with
  | zero =>
    intro i o r c3 c5 hi ho h
    have : i = 400 := by omega
    subst this
    rw [G_48]
    refine rn_p (by decide) (rn_m (l3 o r c3 c5 ho h) (fun q hq => ⟨hq.1, ?_⟩))
    cases r <;> exact hq.2
  | succ m ih =>
    intro i o r c3 c5 hi ho h
    obtain ⟨e0, p, hp, px, pf⟩ := RI_p h
    have n400 : ¬ (400 : Int32) ≤ nI i := show ¬ nI 400 ≤ nI i from nI_ge (by omega) (by decide)
    cases r with
    | inl f =>
      rw [G_48, e0]
      exact rn_n n400 (rn_n (pf f rfl) (l3 o (.inl f) c3 c5 ho h))
    | inr x =>
      obtain ⟨hpx, h7⟩ := px x rfl
      subst hpx
      have kb := kd_b (l := l) (p := rP x) hu
      -- labels 1 and 2
      have l1 : ∀ (w s : Nat) (c3' : Cl), kd u l (rP x) = w → ((w = 142 ∧ s = 22) ∨ (w = 147 ∧ s = 23)) → Kp [6, 7] c3 c3' → Oth rd c3 c3' → RI rd ru u l (.inr (pskx u l x)) c3' c5 → Rn (G_48 ru 1 [dI o, nI i, nI (kd u l (rP x))] [] [] c3' c5) (fun q => Fr rd ru c3 c5 q.1 q.2 ∧ RI rd ru u l (psl u l (m + 1) o x) q.1 q.2) := fun w s c3' hw hs k3 o3 h' => by
        rw [G_48]
        refine rn_b (f_49 hu l4 h') (fun q ⟨q1, q2⟩ => rn_e (v := nI s) ?_ (rn_b (f_43 (s := s) q2) (fun c5' ⟨⟨a, b⟩, e⟩ => ?_)))
        · rw [hw]
          rcases hs with ⟨a, b⟩ | ⟨a, b⟩
          · rw [a, b]; exact if_pos rfl
          · rw [a, b]; exact if_neg (by decide)
        · rw [nI_1]
          refine rn_m (ih (i + 1) o _ q.1 c5' (by omega) ho e) (fun z ⟨z1, z2⟩ => ⟨fr_tr ⟨k3, o3, kp_rf _ _, oth_rf _ _⟩ (fr_tr q1 (fr_tr ⟨kp_rf _ _, oth_rf _ _, a, b⟩ z1)), ?_⟩)
          have ep : psl u l (m + 1) o x = pb (pb (pval u l (pskx u l x)) (fun y => .inr (pput s y))) (psl u l m o) := by
            rw [pb_b]
            unfold psl
            rcases hs with ⟨a, b⟩ | ⟨a, b⟩
            · rw [if_pos (by rw [hw]; exact a), b]; rfl
            · rw [if_neg (by rw [hw, a]; decide), if_pos (by rw [hw]; exact a), b]; rfl
          rw [ep]; exact z2
      have l2 : ∀ (w s : Nat) (c3' : Cl), kd u l (rP x) = w → ((w = 143 ∧ s = 20) ∨ (w = 145 ∧ s = 21)) → Kp [6, 7] c3 c3' → Oth rd c3 c3' → RI rd ru u l (.inr (pskx u l x)) c3' c5 → Rn (G_48 ru 2 [dI o, nI i, nI (kd u l (rP x))] [] [] c3' c5) (fun q => Fr rd ru c3 c5 q.1 q.2 ∧ RI rd ru u l (psl u l (m + 1) o x) q.1 q.2) := fun w s c3' hw hs k3 o3 h' => by
        rw [G_48]
        refine rn_b (due_ok ho h') (fun c5' ⟨⟨a, b⟩, e⟩ => rn_e (v := nI s) ?_ (rn_b (f_49 hu l4 e) (fun q ⟨q1, q2⟩ => ?_)))
        · rw [hw]
          rcases hs with ⟨a, b⟩ | ⟨a, b⟩
          · rw [a, b]; exact if_pos rfl
          · rw [a, b]; exact if_neg (by decide)
        · rw [nI_1]
          refine rn_m (ih (i + 1) (some s) _ q.1 q.2 (by omega) (by rcases hs with ⟨_, b⟩ | ⟨_, b⟩ <;> subst b <;> unfold dok <;> simp) q2) (fun z ⟨z1, z2⟩ => ⟨fr_tr ⟨k3, o3, a, b⟩ (fr_tr q1 z1), ?_⟩)
          have ep : psl u l (m + 1) o x = pb (pval u l (pdue o (pskx u l x))) (psl u l m (some s)) := by
            unfold psl
            rcases hs with ⟨a, b⟩ | ⟨a, b⟩
            · rw [if_neg (by rw [hw, a]; decide), if_neg (by rw [hw, a]; decide), if_pos (by rw [hw]; exact a), b]
            · rw [if_neg (by rw [hw, a]; decide), if_neg (by rw [hw, a]; decide), if_neg (by rw [hw, a]; decide), if_pos (by rw [hw]; exact a), b]
          rw [ep]; exact z2
      rw [G_48, e0]
      refine rn_n n400 (rn_p h7 (rn_e (f_29 hp) (rn_b (f_32x (w := 142) hu (by decide) h) (fun q1 ⟨⟨a1, b1⟩, e1⟩ => ?_))))
      rcases e1 with ⟨g1, y, hy, ky, ry⟩ | ⟨g1, g2, g3⟩
      · cases hy
        exact rn_n (by rw [g1]; decide) (l1 142 22 q1.2 ky (Or.inl ⟨rfl, rfl⟩) a1 b1 ry)
      rw [g2]
      refine rn_p g1 (rn_b (f_32x (w := 147) hu (by decide) h) (fun q2 ⟨⟨a2, b2⟩, e2⟩ => ?_))
      rcases e2 with ⟨i1, y, hy, ky, ry⟩ | ⟨i1, i2, i3⟩
      · cases hy
        exact rn_n (by rw [i1]; decide) (l1 147 23 q2.2 ky (Or.inr ⟨rfl, rfl⟩) a2 b2 ry)
      rw [i2]
      refine rn_p i1 (rn_b (f_32x (w := 143) hu (by decide) h) (fun q3 ⟨⟨a3, b3⟩, e3⟩ => ?_))
      rcases e3 with ⟨j1, y, hy, ky, ry⟩ | ⟨j1, j2, j3⟩
      · cases hy
        exact rn_n (by rw [j1]; decide) (l2 143 20 q3.2 ky (Or.inl ⟨rfl, rfl⟩) a3 b3 ry)
      rw [j2]
      refine rn_p j1 (rn_b (f_32x (w := 145) hu (by decide) h) (fun q4 ⟨⟨a4, b4⟩, e4⟩ => ?_))
      rcases e4 with ⟨k1, y, hy, ky, ry⟩ | ⟨k1, k2, k3⟩
      · cases hy
        exact rn_n (by rw [k1]; decide) (l2 145 21 q4.2 ky (Or.inr ⟨rfl, rfl⟩) a4 b4 ry)
      rw [k2]
      refine rn_p k1 (rn_m (l3 o (.inr x) c3 c5 ho h) (fun z ⟨z1, z2⟩ => ⟨z1, ?_⟩))
      have ep : psl u l (m + 1) o x = .inr (pdue o x) := by
        unfold psl
        rw [if_neg (g3 x rfl), if_neg (i3 x rfl), if_neg (j3 x rfl), if_neg (k3 x rfl)]
      show RI rd ru u l (psl u l (m + 1) o x) z.1 z.2
      rw [ep]; exact z2
theorem f_48 {r : Pr} (hu : ∀ j, u j < 256) (l4 : l ≤ 400) (h : RI rd ru u l r c3 c5) : Rn (F_48 c3 c5 ru) (fun q => Fr rd ru c3 c5 q.1 q.2 ∧ RI rd ru u l (pb r (psum u l)) q.1 q.2) := by
  unfold F_48
  refine rn_b (f_49 hu l4 h) (fun q ⟨q1, q2⟩ => rn_m (x := G_48 ru 0 [dI none, nI 0] [] [] q.1 q.2) (gl_48 hu l4 400 0 none _ q.1 q.2 rfl (Or.inl rfl) q2) (fun z ⟨z1, z2⟩ => ⟨fr_tr q1 z1, ?_⟩))
  rw [pb_b] at z2
  exact z2
/-- the sign of a fact -/
theorem f_46 {r : Pr} (hu : ∀ j, u j < 256) (l4 : l ≤ 400) (h : RI rd ru u l r c3 c5) : Rn (F_46 c3 c5 ru) (fun q => Fr rd ru c3 c5 q.2.1 q.2.2 ∧ RI rd ru u l (pb r (psgn u l)) q.2.1 q.2.2 ∧ ∃ s, q.1 = nI s ∧ ∀ x, r = .inr x → ∀ t, psig (kd u l (rP x)) = some t → s = t) := by
  obtain ⟨e0, p, hp, px, pf⟩ := RI_p h
  have kb := kd_b (l := l) (p := p) hu
  have kI : ∀ w, w < 400 → (nI (kd u l p) = nI w ↔ kd u l p = w) := fun w hw => nI_eq (by omega) (by omega)
  obtain ⟨s, hs⟩ : ∃ s, s = (psig (kd u l p)).getD 4294967295 := ⟨_, rfl⟩
  have f47 : F_47 (nI (kd u l p)) = some (nI s) := by
    rw [hs]
    unfold F_47 psig
    by_cases a : kd u l p = 32
    · rw [a]; rfl
    by_cases b : kd u l p = 33
    · rw [b]; rfl
    by_cases c : kd u l p = 160
    · rw [c]; rfl
    by_cases e : kd u l p = 161
    · rw [e]; rfl
    by_cases f : kd u l p = 162
    · rw [f]; rfl
    rw [if_neg a, if_neg b, if_neg c, if_neg e, if_neg f]
    exact in_neg (fun z => a ((kI 32 (by decide)).mp z)) (in_neg (fun z => b ((kI 33 (by decide)).mp z)) (in_neg (fun z => c ((kI 160 (by decide)).mp z)) (in_neg (fun z => e ((kI 161 (by decide)).mp z)) (in_neg (fun z => f ((kI 162 (by decide)).mp z)) rfl))))
  have sx : ∀ x, r = .inr x → ∀ t, psig (kd u l (rP x)) = some t → s = t := fun x hx t ht => by
    rw [(px x hx).1] at ht
    rw [hs, ht]; rfl
  have sn : (psig (kd u l p) = none ∧ nI s = -1) ∨ (∃ t, psig (kd u l p) = some t ∧ nI s = nI t ∧ t < 100) := by
    rw [hs]
    unfold psig
    by_cases a : kd u l p = 32
    · rw [a]; exact Or.inr ⟨25, rfl, rfl, by decide⟩
    by_cases b : kd u l p = 33
    · rw [b]; exact Or.inr ⟨27, rfl, rfl, by decide⟩
    by_cases c : kd u l p = 160
    · rw [c]; exact Or.inr ⟨24, rfl, rfl, by decide⟩
    by_cases e : kd u l p = 161
    · rw [e]; exact Or.inr ⟨26, rfl, rfl, by decide⟩
    by_cases f : kd u l p = 162
    · rw [f]; exact Or.inr ⟨28, rfl, rfl, by decide⟩
    rw [if_neg a, if_neg b, if_neg c, if_neg e, if_neg f]
    exact Or.inl ⟨rfl, rfl⟩
  have bad : ∀ w, w < 8 → (∀ x, r = .inr x → psgn u l x = .inl (flt (rP x) w)) → Rn (F_28 c3 rd (nI w) >>= fun r7 => some (r7, c5)) (fun q => Fr rd ru c3 c5 q.1 q.2 ∧ RI rd ru u l (pb r (psgn u l)) q.1 q.2) := fun w hw hx => by
    refine rn_b (f_28x l4 hw h) (fun c3' ⟨⟨a, b⟩, e⟩ => rn_r ⟨⟨a, b, kp_rf _ _, oth_rf _ _⟩, ?_⟩)
    cases r with
    | inl f => exact e
    | inr x => show RI rd ru u l (psgn u l x) c3' c5; rw [hx x rfl]; exact e
  unfold F_46
  rw [e0]
  refine rn_e (f_29 hp) (rn_e f47 (rn_b (P := fun t => Fr rd ru c3 c5 t.1 t.2 ∧ RI rd ru u l (pb r (psgn u l)) t.1 t.2) ?_ (fun t ⟨t1, t2⟩ => rn_r ⟨t1, t2, s, rfl, sx⟩)))
  rcases sn with ⟨s1, s2⟩ | ⟨t, s1, s2, s3⟩
  · refine rn_p s2 (bad 0 (by decide) (fun x hx => ?_))
    unfold psgn; rw [(px x hx).1, s1]
  · have nm : ¬ nI s = -1 := fun z => by
      rw [s2] at z
      have : ¬ (-1 : Int32) < 0 := by rw [← z]; exact nI_pos (by omega)
      exact this (by decide)
    have step : ∀ v, v ≤ 60 → cI c5 3 ru = nI v → (∀ x, r = .inr x → rV x = v) → Rn (if (cI c5 3 ru) < 60 then some (sI c5 3 ru ((cI c5 3 ru) + 1)) >>= fun c5_9 => F_31 c3 (cR c5_9 0 ru) >>= fun r11 => some (r11, c5_9) else F_28 c3 rd 3 >>= fun r12 => some (r12, c5)) (fun q => Fr rd ru c3 c5 q.1 q.2 ∧ RI rd ru u l (pb r (psgn u l)) q.1 q.2) := fun v hv ev hvx => by
      rw [ev]
      by_cases w : v < 60
      · refine rn_p (show nI v < nI 60 from nI_lt w (by decide)) (rn_s ?_)
        rw [show cR (sI c5 3 ru (nI v + 1)) 0 ru = rd from e0, nI_1]
        obtain ⟨c5a, hc5a⟩ : ∃ c5a, c5a = sI c5 3 ru (nI (v + 1)) := ⟨_, rfl⟩
        rw [← hc5a]
        have ka : Kp [1, 2, 3] c5 c5a := by rw [hc5a]; exact kp_I (by decide)
        have oa : Oth ru c5 c5a := by rw [hc5a]; exact oth_I
        have hI : RI rd ru u l (pb r (fun x => .inr (pinc x))) c3 c5a := by
          cases r with
          | inl f =>
            obtain ⟨g1, g2, g3, g4, ⟨k, gk, gk2⟩, _, g7⟩ := h
            exact ⟨g1, g2, g3, g4, ⟨k, gk, by rw [hc5a]; simp only [cI_sI, cI_sJ, cI_sR, cI_sA, cI_sB, cI_sQ, cR_sI, cR_sJ, cR_sR, cR_sA, cR_sB, cR_sQ, cA_sI, cA_sJ, cA_sR, cA_sA, cA_sB, cA_sQ, Nat.reduceEqDiff, false_and, and_false, and_true, true_and, if_false, if_true, and_self, ↓reduceIte]; exact gk2⟩, ⟨v + 1, by omega, by rw [hc5a]; simp only [cI_sI, cI_sJ, cI_sR, cI_sA, cI_sB, cI_sQ, cR_sI, cR_sJ, cR_sR, cR_sA, cR_sB, cR_sQ, cA_sI, cA_sJ, cA_sR, cA_sA, cA_sB, cA_sQ, Nat.reduceEqDiff, false_and, and_false, and_true, true_and, if_false, if_true, and_self, ↓reduceIte]⟩, by rw [hc5a]; exact g7⟩
          | inr x =>
            obtain ⟨g1, g2, g3, g4, g5, g6, g7⟩ := h
            have hvx' := hvx x rfl
            exact ⟨g1, by rw [hc5a]; simp only [cI_sI, cI_sJ, cI_sR, cI_sA, cI_sB, cI_sQ, cR_sI, cR_sJ, cR_sR, cR_sA, cR_sB, cR_sQ, cA_sI, cA_sJ, cA_sR, cA_sA, cA_sB, cA_sQ, Nat.reduceEqDiff, false_and, and_false, and_true, true_and, if_false, if_true, and_self, ↓reduceIte]; exact g2, g3, by rw [hc5a]; simp only [cI_sI, cI_sJ, cI_sR, cI_sA, cI_sB, cI_sQ, cR_sI, cR_sJ, cR_sR, cR_sA, cR_sB, cR_sQ, cA_sI, cA_sJ, cA_sR, cA_sA, cA_sB, cA_sQ, Nat.reduceEqDiff, false_and, and_false, and_true, true_and, if_false, if_true, and_self, ↓reduceIte]; show nI (v + 1) = nI (rV x + 1); rw [hvx'], by show rV x + 1 ≤ 60; omega, fun i hi => by rw [hc5a]; simp only [cI_sI, cI_sJ, cI_sR, cI_sA, cI_sB, cI_sQ, cR_sI, cR_sJ, cR_sR, cR_sA, cR_sB, cR_sQ, cA_sI, cA_sJ, cA_sR, cA_sA, cA_sB, cA_sQ, Nat.reduceEqDiff, false_and, and_false, and_true, true_and, if_false, if_true, and_self, ↓reduceIte]; exact g6 i hi, by rw [hc5a]; exact g7⟩
        refine rn_b (f_31x hI) (fun c3' ⟨⟨k3, o3⟩, h3⟩ => rn_r ⟨⟨k3, o3, ka, oa⟩, ?_⟩)
        cases r with
        | inl f => exact h3
        | inr x =>
          have e1 : psgn u l x = .inr (pskx u l (pinc x)) := by
            unfold psgn
            rw [(px x rfl).1, s1]
            exact if_neg (by rw [hvx x rfl]; omega)
          show RI rd ru u l (psgn u l x) c3' c5a
          rw [e1]; exact h3
      · refine rn_n (show ¬ nI v < nI 60 from nI_nlt (by omega) (by omega)) (bad 3 (by decide) (fun x hx => ?_))
        unfold psgn
        rw [(px x hx).1, s1]
        exact if_pos (by rw [hvx x hx]; omega)
    refine rn_n nm ?_
    cases r with
    | inl f =>
      obtain ⟨_, _, _, _, _, ⟨v, hv, ev⟩, _⟩ := id h
      exact step v hv ev (fun x hx => by cases hx)
    | inr x =>
      exact step (rV x) h.2.2.2.2.1 h.2.2.2.1 (fun y hy => by cases hy; rfl)
/-- a comparison -/
theorem cmp_ok {r : Pr} (hu : ∀ j, u j < 256) (l4 : l ≤ 400) (h : RI rd ru u l r c3 c5) : Rn (F_48 c3 c5 ru >>= fun r5 => F_46 r5.1 r5.2 ru >>= fun r6 => F_48 r6.2.1 r6.2.2 ru >>= fun r7 => F_43 r7.2 ru r6.1 >>= fun r8 => some (r7.1, r8)) (fun q => Fr rd ru c3 c5 q.1 q.2 ∧ RI rd ru u l (pb r (pcmp u l)) q.1 q.2) := by
  refine rn_b (f_48 hu l4 h) (fun a ⟨a1, a2⟩ => rn_b (f_46 hu l4 a2) (fun b ⟨b1, b2, s, b3, b4⟩ => rn_b (f_48 hu l4 b2) (fun e ⟨e1, e2⟩ => ?_)))
  rw [b3]
  refine rn_b (f_43 (s := s) e2) (fun g ⟨⟨g1, g2⟩, g3⟩ => rn_r ⟨fr_tr a1 (fr_tr b1 (fr_tr e1 ⟨kp_rf _ _, oth_rf _ _, g1, g2⟩)), ?_⟩)
  cases r with
  | inl f => exact g3
  | inr x =>
    show RI rd ru u l (pcmp u l x) e.1 g
    have g3' : RI rd ru u l (pb (pb (pb (psum u l x) (psgn u l)) (psum u l)) (fun x => .inr (pput s x))) e.1 g := g3
    have b4' : ∀ y, psum u l x = .inr y → ∀ t, psig (kd u l (rP y)) = some t → s = t := b4
    unfold pcmp
    cases hx : psum u l x with
    | inl f => rw [hx] at g3'; exact g3'
    | inr y =>
      rw [hx] at g3'
      have g4 : RI rd ru u l (pb (pb (psgn u l y) (psum u l)) (fun x => .inr (pput s x))) e.1 g := g3'
      rw [pb_b] at g4
      show RI rd ru u l (pb (psgn u l y) (fun z => pb (psum u l z) (fun w => .inr (pput ((psig (kd u l (rP y))).getD 0) w)))) e.1 g
      cases hs : psig (kd u l (rP y)) with
      | none =>
        have : psgn u l y = .inl (flt (rP y) 0) := by unfold psgn; rw [hs]
        rw [this] at g4 ⊢
        exact g4
      | some t =>
        have := b4' y hx t hs
        subst this
        exact g4
end Parse2
