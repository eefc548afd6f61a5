/-! ===== rules: facts and tests, the class ===== -/
section Parse3
variable {c3 c5 : Cl} {rd ru : Nat} {u : Nat → Nat} {l : Nat}
def bO (b : Bool) : Int32 := if b = true then 1 else 0
theorem or_ok {r : Pr} {b : Bool} (h : RI rd ru u l r c3 c5) : Rn ((if bO b = 0 then some c5 else F_43 c5 ru 30 >>= fun r19 => some r19) : Option Cl) (fun c5' => (Kp [1, 2, 3] c5 c5' ∧ Oth ru c5 c5') ∧ RI rd ru u l (pb r (fun x => .inr (por b x))) c3 c5') := by
  cases b with
  | false =>
    refine rn_p rfl (rn_r ⟨⟨kp_rf _ _, oth_rf _ _⟩, ?_⟩)
    cases r <;> exact h
  | true => exact rn_n (by decide) (rn_b (f_43 (s := 30) h) (fun t ht => rn_r ht))
theorem gl_44 {R45 : Cl → Cl → Nat → Int32 → Option (Cl × Cl)} {dp : Int32} {pf : Ps → Pr} (hu : ∀ j, u j < 256) (l4 : l ≤ 400) (hR : ∀ (r : Pr) (c3 c5 : Cl), RI rd ru u l r c3 c5 → Rn (R45 c3 c5 ru dp) (fun q => Fr rd ru c3 c5 q.1 q.2 ∧ RI rd ru u l (pb r pf) q.1 q.2)) : ∀ (m i : Nat) (b : Bool) (r : Pr) (c3 c5 : Cl), i + m = 400 → RI rd ru u l r c3 c5 → Rn (G_44 R45 ru 0 [dp, bO b, nI i] [] [] c3 c5) (fun q => Fr rd ru c3 c5 q.1 q.2 ∧ RI rd ru u l (pb r (ptl u l pf m b)) q.1 q.2) := fun m => by
  have l1 : ∀ (b : Bool) (r : Pr) (c3 c5 : Cl), RI rd ru u l r c3 c5 → Rn (G_44 R45 ru 1 [bO b] [] [] c3 c5) (fun q => Fr rd ru c3 c5 q.1 q.2 ∧ RI rd ru u l (pb r (fun x => .inr (por b x))) q.1 q.2) := fun b r c3 c5 h => by
    rw [G_44]
    exact rn_b (or_ok h) (fun t ⟨⟨a, b⟩, e⟩ => rn_r ⟨⟨kp_rf _ _, oth_rf _ _, a, b⟩, e⟩)
  induction m with
  | zero =>
    intro i b r c3 c5 hi h
    have : i = 400 := by omega
    subst this
    rw [G_44]
    refine rn_p (by decide) (rn_m (l1 b r c3 c5 h) (fun q hq => ⟨hq.1, ?_⟩))
    cases r <;> exact hq.2
  | succ m ih =>
    intro i b r c3 c5 hi h
    obtain ⟨e0, p, hp, px, pf'⟩ := RI_p h
    have n400 : ¬ (400 : Int32) ≤ nI i := show ¬ nI 400 ≤ nI i from nI_ge (by omega) (by decide)
    cases r with
    | inl f =>
      rw [G_44, e0]
      exact rn_n n400 (rn_n (pf' f rfl) (l1 b (.inl f) c3 c5 h))
    | inr x =>
      obtain ⟨hpx, h7⟩ := px x rfl
      rw [G_44, e0]
      refine rn_n n400 (rn_p h7 (rn_b (f_32x (w := 20) hu (by decide) h) (fun q1 ⟨⟨a1, b1⟩, e1⟩ => ?_)))
      rcases e1 with ⟨g1, y, hy, ky, ry⟩ | ⟨g1, g2, g3⟩
      · cases hy
        refine rn_n (by rw [g1]; decide) (rn_b (hR _ q1.2 c5 ry) (fun q ⟨f1, f2⟩ => rn_b (f_43 (s := 29) f2) (fun c5' ⟨⟨a, b'⟩, e⟩ => ?_)))
        rw [nI_1]
        refine rn_m (ih (i + 1) b _ q.1 c5' (by omega) e) (fun z ⟨z1, z2⟩ => ⟨fr_tr ⟨a1, b1, kp_rf _ _, oth_rf _ _⟩ (fr_tr f1 (fr_tr ⟨kp_rf _ _, oth_rf _ _, a, b'⟩ z1)), ?_⟩)
        have ep : ptl u l pf (m + 1) b x = pb (pb (pf (pskx u l x)) (fun y => .inr (pput 29 y))) (ptl u l pf m b) := by
          rw [pb_b]
          unfold ptl
          rw [if_pos ky]; rfl
        show RI rd ru u l (ptl u l pf (m + 1) b x) z.1 z.2
        rw [ep]; exact z2
      rw [g2]
      refine rn_p g1 (rn_b (f_32x (w := 21) hu (by decide) h) (fun q2 ⟨⟨a2, b2⟩, e2⟩ => ?_))
      rcases e2 with ⟨i1, y, hy, ky, ry⟩ | ⟨i1, i2, i3⟩
      · cases hy
        refine rn_n (by rw [i1]; decide) (rn_b (or_ok (b := b) ry) (fun c5' ⟨⟨a, b'⟩, e⟩ => rn_b (hR _ q2.2 c5' e) (fun q ⟨f1, f2⟩ => ?_)))
        rw [nI_1]
        refine rn_m (x := G_44 R45 ru 0 [dp, bO true, nI (i + 1)] [] [] q.1 q.2) (ih (i + 1) true _ q.1 q.2 (by omega) f2) (fun z ⟨z1, z2⟩ => ⟨fr_tr ⟨a2, b2, a, b'⟩ (fr_tr f1 z1), ?_⟩)
        have ep : ptl u l pf (m + 1) b x = pb (pf (por b (pskx u l x))) (ptl u l pf m true) := by
          show (if kd u l (rP x) = 20 then _ else if kd u l (rP x) = 21 then pb (pf (por b (pskx u l x))) (ptl u l pf m true) else _) = _
          rw [if_neg (by rw [ky]; decide), if_pos ky]
        show RI rd ru u l (ptl u l pf (m + 1) b x) z.1 z.2
        rw [ep]; exact z2
      rw [i2]
      refine rn_p i1 (rn_m (l1 b (.inr x) c3 c5 h) (fun z ⟨z1, z2⟩ => ⟨z1, ?_⟩))
      have ep : ptl u l pf (m + 1) b x = .inr (por b x) := by
        show (if kd u l (rP x) = 20 then _ else if kd u l (rP x) = 21 then _ else (Sum.inr (por b x) : Pr)) = _
        rw [if_neg (g3 x rfl), if_neg (i3 x rfl)]
      show RI rd ru u l (ptl u l pf (m + 1) b x) z.1 z.2
      rw [ep]; exact z2
/-- a test, when facts are read rightly -/
theorem ax_44 {R45 : Cl → Cl → Nat → Int32 → Option (Cl × Cl)} {dp : Int32} {pf : Ps → Pr} (hu : ∀ j, u j < 256) (l4 : l ≤ 400) (hR : ∀ (r : Pr) (c3 c5 : Cl), RI rd ru u l r c3 c5 → Rn (R45 c3 c5 ru dp) (fun q => Fr rd ru c3 c5 q.1 q.2 ∧ RI rd ru u l (pb r pf) q.1 q.2)) (r : Pr) (c3 c5 : Cl) (h : RI rd ru u l r c3 c5) : Rn (A_44 R45 c3 c5 ru dp) (fun q => Fr rd ru c3 c5 q.1 q.2 ∧ RI rd ru u l (pb (pb r pf) (ptl u l pf 400 false)) q.1 q.2) := by
  unfold A_44
  exact rn_b (hR r c3 c5 h) (fun q ⟨q1, q2⟩ => rn_m (x := G_44 R45 ru 0 [dp, bO false, nI 0] [] [] q.1 q.2) (gl_44 hu l4 hR 400 0 false _ q.1 q.2 rfl q2) (fun z ⟨z1, z2⟩ => ⟨fr_tr q1 z1, z2⟩))
/-- a fact -/
theorem ax_45 (hu : ∀ j, u j < 256) (l4 : l ≤ 400) : ∀ (e dd n : Nat), dd + e = 10 → 2 * e + 1 ≤ n → ∀ (r : Pr) (c3 c5 : Cl), RI rd ru u l r c3 c5 → Rn ((FR_45 n).1 c3 c5 ru (nI dd)) (fun q => Fr rd ru c3 c5 q.1 q.2 ∧ RI rd ru u l (pb r (pfa u l e)) q.1 q.2)
  | e, dd, 0, _, hn, _, _, _, _ => by omega
  | e, dd, n + 1, hde, hn, r, c3, c5, h => by
    obtain ⟨e0, p, hp, px, pf'⟩ := RI_p h
    have kb := kd_b (l := l) (p := p) hu
    show Rn (A_45 ((FR_45 n).2) ((FR_45 n).1) c3 c5 ru (nI dd)) _
    unfold A_45
    rw [e0]
    refine rn_e (f_29 hp) ?_
    have kx : ∀ x, r = .inr x → kd u l (rP x) = kd u l p := fun x hx => by rw [(px x hx).1]
    have deep : (kd u l p = 22 ∨ kd u l p = 191) → Rn (G_45 ((FR_45 n).2) ((FR_45 n).1) c3 c5 ru 0 [nI dd] [] []) (fun q => Fr rd ru c3 c5 q.1 q.2 ∧ RI rd ru u l (pb r (pfa u l e)) q.1 q.2) := fun hk => by
      rw [G_45, e0]
      refine rn_b (P := fun q => Fr rd ru c3 c5 q.1 q.2 ∧ RI rd ru u l (pb r (pfa u l e)) q.1 q.2) ?_ (fun t ht => rn_r ht)
      match e, hde, hn with
      | 0, hde, hn =>
        refine rn_n (show ¬ nI dd < nI 10 from nI_nlt (by omega) (by omega)) (rn_b (f_28x (w := 2) l4 (by decide) h) (fun c3' ⟨⟨a, b⟩, g⟩ => rn_r ⟨⟨a, b, kp_rf _ _, oth_rf _ _⟩, ?_⟩))
        cases r with
        | inl f => exact g
        | inr x =>
          have ep : pfa u l 0 x = .inl (flt (rP x) 2) := by
            show (if kd u l (rP x) = 22 ∨ kd u l (rP x) = 191 then _ else _) = _
            rw [if_pos (by rw [kx x rfl]; exact hk)]
          show RI rd ru u l (pfa u l 0 x) c3' c5
          rw [ep]; exact g
      | e + 1, hde, hn =>
        refine rn_p (show nI dd < nI 10 from nI_lt (by omega) (by decide)) (rn_b (f_32x (w := 22) hu (by decide) h) (fun q1 ⟨⟨a1, b1⟩, e1⟩ => ?_))
        rcases e1 with ⟨g1, x, hx, kxx, rx⟩ | ⟨g1, g2, g3⟩
        · subst hx
          refine rn_n (by rw [g1]; decide) ?_
          rw [nI_1]
          refine rn_b (ax_45 hu l4 e (dd + 1) n (by omega) (by omega) _ q1.2 c5 rx) (fun q ⟨f1, f2⟩ => rn_b (f_43 (s := 31) f2) (fun c5' ⟨⟨a, b⟩, g⟩ => rn_r ⟨fr_tr ⟨a1, b1, kp_rf _ _, oth_rf _ _⟩ (fr_tr f1 ⟨kp_rf _ _, oth_rf _ _, a, b⟩), ?_⟩))
          have ep : pfa u l (e + 1) x = pb (pfa u l e (pskx u l x)) (fun y => .inr (pput 31 y)) := by
            show (if kd u l (rP x) = 22 then _ else _) = _
            rw [if_pos kxx]
          show RI rd ru u l (pfa u l (e + 1) x) q.1 c5'
          rw [ep]; exact g
        · rw [g2]
          refine rn_p g1 (rn_b (f_32x (w := 191) hu (by decide) h) (fun q2 ⟨⟨a2, b2⟩, e2⟩ => ?_))
          rcases e2 with ⟨i1, x, hx, kxx, rx⟩ | ⟨i1, i2, i3⟩
          · subst hx
            refine rn_n (by rw [i1]; decide) ?_
            rw [nI_1]
            match n, hn with
            | n + 1, hn =>
              refine rn_b (ax_44 (R45 := (FR_45 n).1) (pf := pfa u l e) hu l4 (fun r c3 c5 hr => ax_45 hu l4 e (dd + 1) n (by omega) (by omega) r c3 c5 hr) _ q2.2 c5 rx) (fun q ⟨f1, f2⟩ => ?_)
              obtain ⟨e0', -⟩ := RI_p f2
              rw [e0']
              have ep : pfa u l (e + 1) x = pb (pb (pfa u l e (pskx u l x)) (ptl u l (pfa u l e) 400 false)) (pcls u l) := by
                show (if kd u l (rP x) = 22 then _ else if kd u l (rP x) = 191 then _ else _) = _
                rw [if_neg (by rw [kxx]; decide), if_pos kxx]
              obtain ⟨ρ, hρ⟩ : ∃ ρ, ρ = pb (pfa u l e (pskx u l x)) (ptl u l (pfa u l e) 400 false) := ⟨_, rfl⟩
              have f2' : RI rd ru u l ρ q.1 q.2 := by rw [hρ]; exact f2
              rw [← hρ] at ep
              refine rn_b (f_32x (w := 193) hu (by decide) f2') (fun q3 ⟨⟨a3, b3⟩, e3⟩ => ?_)
              have fr : Fr rd ru c3 c5 q.1 q.2 := fr_tr ⟨a2, b2, kp_rf _ _, oth_rf _ _⟩ f1
              rcases e3 with ⟨j1, y, hy, kyy, ry⟩ | ⟨j1, j2, j3⟩
              · refine rn_n (by rw [j1]; decide) (rn_r ⟨fr_tr fr ⟨a3, b3, kp_rf _ _, oth_rf _ _⟩, ?_⟩)
                show RI rd ru u l (pfa u l (e + 1) x) q3.2 q.2
                rw [ep, hy]
                show RI rd ru u l (pcls u l y) q3.2 q.2
                unfold pcls
                rw [if_pos kyy]; exact ry
              · rw [j2]
                refine rn_p j1 (rn_b (f_28x (w := 0) l4 (by decide) f2') (fun c3' ⟨⟨a4, b4⟩, g⟩ => rn_r ⟨fr_tr fr ⟨a4, b4, kp_rf _ _, oth_rf _ _⟩, ?_⟩))
                show RI rd ru u l (pfa u l (e + 1) x) c3' q.2
                rw [ep]
                cases hr : ρ with
                | inl f => rw [hr] at g; exact g
                | inr y =>
                  rw [hr] at g
                  show RI rd ru u l (pcls u l y) c3' q.2
                  unfold pcls
                  rw [if_neg (j3 y hr)]; exact g
            | 0, hn => omega
          · refine rn_p i1 (rn_r ⟨?_, ?_⟩)
            · rw [i2]; exact fr_rf
            · rw [i2]
              cases r with
              | inl f => exact h
              | inr x =>
                exfalso
                rcases hk with hk | hk
                · exact g3 x rfl (by rw [kx x rfl]; exact hk)
                · exact i3 x rfl (by rw [kx x rfl]; exact hk)
    by_cases w22 : kd u l p = 22
    · exact rn_p (by rw [w22]; rfl) (deep (Or.inl w22))
    · refine rn_n (fun z => w22 ((nI_eq (a := kd u l p) (b := 22) (by omega) (by omega)).mp z)) ?_
      by_cases w191 : kd u l p = 191
      · exact rn_p (by rw [w191]; rfl) (deep (Or.inr w191))
      · refine rn_n (fun z => w191 ((nI_eq (a := kd u l p) (b := 191) (by omega) (by omega)).mp z)) (rn_m (cmp_ok hu l4 h) (fun q ⟨q1, q2⟩ => ⟨q1, ?_⟩))
        cases r with
        | inl f => exact q2
        | inr x =>
          have ep : pfa u l e x = pcmp u l x := by
            cases e with
            | zero =>
              show (if kd u l (rP x) = 22 ∨ kd u l (rP x) = 191 then _ else _) = _
              rw [if_neg (by rw [kx x rfl]; omega)]
            | succ e =>
              show (if kd u l (rP x) = 22 then _ else if kd u l (rP x) = 191 then _ else _) = _
              rw [if_neg (by rw [kx x rfl]; exact w22), if_neg (by rw [kx x rfl]; exact w191)]
          show RI rd ru u l (pfa u l e x) q.1 q.2
          rw [ep]; exact q2
theorem f_44 {r : Pr} (hu : ∀ j, u j < 256) (l4 : l ≤ 400) (h : RI rd ru u l r c3 c5) : Rn (F_44 c3 c5 ru 0) (fun q => Fr rd ru c3 c5 q.1 q.2 ∧ RI rd ru u l (pb r (ptest u l)) q.1 q.2) := by
  have e : F_44 c3 c5 ru 0 = A_44 ((FR_45 39).1) c3 c5 ru (nI 0) := rfl
  rw [e]
  refine rn_m (ax_44 (pf := pfa u l 10) hu l4 (fun r c3 c5 hr => ax_45 hu l4 10 0 39 rfl (by decide) r c3 c5 hr) r c3 c5 h) (fun q ⟨q1, q2⟩ => ⟨q1, ?_⟩)
  rw [pb_b] at q2
  exact q2
end Parse3
