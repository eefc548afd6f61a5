/-! ===== house: the whole text ===== -/
section ReadH2
variable {c c1 c2 c3 c11 c12 : Cl} {d : Ad} {rd hr ho B2 : Nat} {u : Nat → Nat} {l n p q : Nat} {R D H Q : Nat}
/-- what reading a house comes to -/
def RHo (rd hr ho B2 : Nat) (c1 c2 c3 c12 : Cl) (d : Ad) (rx : Option Nat × Cl × Cl × Cl × Ad) (rm : Int32 × Cl) : Prop := (Oth ho c1 rx.2.1 ∧ (Kp [1] c2 rx.2.2.1 ∧ Oth hr c2 rx.2.2.1) ∧ (Kp [6, 7] c3 rx.2.2.2.1 ∧ Oth rd c3 rx.2.2.2.1) ∧ rx.2.2.2.2 = d ∧ Kp [1, 7, 8, 9, 10, 14] c12 rm.2 ∧ cI rm.2 1 B2 = 0) ∧ ((rm.1 = 1 ∧ rx.1 = some ho ∧ ∃ R D H Q lg, 2 ≤ R ∧ R ≤ 6 ∧ HR rx.2.1 ho (cA rm.2 7 B2) R D H Q lg) ∨ (rm.1 = 0 ∧ rx.1 = none ∧ ∃ f, cI rx.2.2.2.1 7 rd = nI f ∧ cI rm.2 9 B2 = nI f))
/-- behind a fault -/
theorem rd_bad {cn : Int32} (hu : ∀ j, u j < 256) (l4 : l ≤ 400) (e2 : cR c2 0 hr = rd) (hF : FO rd B2 u l c3 c12) : ∃ rx rm, (F_33 c3 rd >>= fun r18 => G_15 c11 d hr 0 [r18.1, cn] [] [ho] c1 c2 r18.2) = some rx ∧ G_210 B2 0 [0] [] [] c12 = some rm ∧ RHo rd hr ho B2 c1 c2 c3 c12 d rx rm := by
  obtain ⟨f, p, f1, f2, f3, f4, hd⟩ := hF
  have nz : ¬ cI c3 7 rd = 0 := by rw [f1]; exact nI_ne0 (by omega) (by omega)
  have nzm : ¬ cI c12 9 B2 = 0 := by rw [f2]; exact nI_ne0 (by omega) (by omega)
  obtain ⟨r, r1, r2, r3, r4⟩ := f_33 hu l4 hd
  rcases r4 with ⟨z, _⟩ | ⟨z, _⟩ | ⟨z, _⟩ | ⟨_, b, _, e⟩
  · exact absurd z nz
  · exact absurd z nz
  · exact absurd z nz
  have g1 : G_15 c11 d hr 1 [] [] [ho] c1 c2 r.2 = some (none, c1, c2, r.2, d) := by
    rw [G_15, e2]
    exact in_neg (by rw [e]; exact nz) rfl
  have g0 : G_15 c11 d hr 0 [r.1, cn] [] [ho] c1 c2 r.2 = some (none, c1, c2, r.2, d) := by
    rw [G_15]
    by_cases w : 40 < cn
    · exact in_pos w g1
    · exact in_neg w (in_pos b g1)
  have m1 : G_210 B2 1 [0] [] [] c12 = some (0, sI c12 1 B2 0) := by
    rw [G_210]
    refine ob_mk (v := c12) (if_pos rfl) (ob_mk rfl (ob_mk (v := (0 : Int32)) (if_neg ?_) rfl))
    rw [cI_sI, if_neg (fun z => absurd z.1 (by decide))]; exact nzm
  refine ⟨(none, c1, c2, r.2, d), (0, sI c12 1 B2 0), ob_mk r1 g0, by rw [G_210]; exact in_pos rfl m1, ⟨oth_rf _ _, ⟨kp_rf _ _, oth_rf _ _⟩, ⟨r2, r3⟩, rfl, kp_I (by decide), by rw [cI_same]⟩, Or.inr ⟨rfl, rfl, f, ?_, ?_⟩⟩
  · show cI r.2 7 rd = nI f
    rw [e]; exact f1
  · show cI (sI c12 1 B2 0) 9 B2 = nI f
    rw [cI_sI, if_neg (fun z => absurd z.1 (by decide))]; exact f2
theorem rd_loop (hu : ∀ j, u j < 256) (l4 : l ≤ 400) (r1 : 2 ≤ R) (r6 : R ≤ 6) : ∀ (m cn p D H Q : Nat) (c1 c2 c3 c12 : Cl), cn + m = 40 → 1 ≤ cn → cI c12 11 B2 = 6 → cI c12 14 B2 = nI cn → HS rd hr ho B2 u l c1 c2 c3 c12 p R D H Q → ∃ rx rm, (F_33 c3 rd >>= fun r18 => G_15 c11 d hr 0 [r18.1, nI cn] [] [ho] c1 c2 r18.2) = some rx ∧ G_210 B2 0 [1] [] [] c12 = some rm ∧ RHo rd hr ho B2 c1 c2 c3 c12 d rx rm := fun m => by
  have key : ∀ (cn p D H Q : Nat) (c1 c2 c3 c12 : Cl), cn ≤ 40 → 1 ≤ cn → cI c12 11 B2 = 6 → cI c12 14 B2 = nI cn → HS rd hr ho B2 u l c1 c2 c3 c12 p R D H Q → (∀ (q D' H' Q' : Nat) (c1' c2' c3' c12' : Cl), cn < 40 → cI c12' 11 B2 = 6 → cI c12' 14 B2 = nI (cn + 1) → HS rd hr ho B2 u l c1' c2' c3' c12' q R D' H' Q' → ∃ rx rm, (F_33 c3' rd >>= fun r18 => G_15 c11 d hr 0 [r18.1, nI (cn + 1)] [] [ho] c1' c2' r18.2) = some rx ∧ G_210 B2 0 [1] [] [] c12' = some rm ∧ RHo rd hr ho B2 c1' c2' c3' c12' d rx rm) → ∃ rx rm, (F_33 c3 rd >>= fun r18 => G_15 c11 d hr 0 [r18.1, nI cn] [] [ho] c1 c2 r18.2) = some rx ∧ G_210 B2 0 [1] [] [] c12 = some rm ∧ RHo rd hr ho B2 c1 c2 c3 c12 d rx rm := fun cn p D H Q c1 c2 c3 c12 hcn hcn1 h11 h14 hS rec => by
    obtain ⟨hH, e2, hd, h7, ⟨n, hR, hp⟩, h9⟩ := id hS
    have pl := RD_le hd
    have pp : sk u l p = p := by rw [← hp]; exact sk_sk
    obtain ⟨r, x1, x2, x3, x4⟩ := f_33 hu l4 hd
    obtain ⟨s0, s1, s2, s3, s4⟩ := f_177 hu l4 hR
    rw [hp] at s3 s4
    have n40 : ¬ (40 : Int32) < nI cn := show ¬ nI 40 < nI cn from nI_nlt hcn (by decide)
    have kd59 := kd_ch (u := u) (l := l) (p := p) (ch := 59) (by omega) (by omega) (by omega) (by omega)
    rcases x4 with ⟨_, a, b, e, f⟩ | ⟨_, a, b, e, f⟩ | ⟨_, a, a2, b, e, f⟩ | ⟨z, _⟩
    · -- another clause
      obtain ⟨lp, u59⟩ := kd59.mp a
      obtain ⟨nx, nk⟩ := nxt_ch (u := u) (l := l) (p := p) lp (by omega) (by omega) (by omega) (by omega)
      rw [if_pos lp, u59] at s4
      obtain ⟨cm, hcm⟩ : ∃ cm, cm = sI s0.2 8 B2 (nI (p + 1)) := ⟨_, rfl⟩
      have k8 : Kp [8] s0.2 cm := by rw [hcm]; exact kp_I (by decide)
      have kc : Kp [8] c12 cm := kp_tr s2 k8
      have Rc : RP cm B2 u l (p + 1) := RP_n k8 s3 (by rw [hcm, cI_same]) (by omega)
      have S' : HS rd hr ho B2 u l c1 c2 r.2 cm (skp u l p) R D H Q := ⟨by rw [(kc 7 (by decide)).2.2.2.1]; exact hH, e2, e, f, ⟨p + 1, Rc, nk.symm⟩, by rw [(kc 9 (by decide)).1]; exact h9⟩
      obtain ⟨rx, rm, g1, g2, g3, g4⟩ := cl_ok (cn := cn) hu l4 (by omega) r6 hcn1 hcn (by rw [(kc 11 (by decide)).1]; exact h11) (by rw [(kc 14 (by decide)).1]; exact h14) S'
      obtain ⟨o1, ⟨o2, o3⟩, ⟨o4, o5⟩, o6, o7⟩ := g3
      have e2' : cR rx.2.1 0 hr = rd := by rw [(o2 0 (by decide)).2.2.1]; exact e2
      have hx : ∀ {y}, (F_33 rx.2.2 rd >>= fun r18 => G_15 c11 d hr 0 [r18.1, nI (cn + 1)] [] [ho] rx.1 rx.2.1 r18.2) = some y → (F_33 c3 rd >>= fun r18 => G_15 c11 d hr 0 [r18.1, nI cn] [] [ho] c1 c2 r18.2) = some y := fun {y} ey => by
        refine ob_mk x1 ?_
        rw [b, G_15]
        refine in_neg n40 (in_neg (by decide) (ob_mk g1 ?_))
        rw [e2', nI_1]
        exact ey
      have hm : ∀ {y}, G_210 B2 0 [rm.1] [] [] rm.2 = some y → G_210 B2 0 [1] [] [] c12 = some y := fun {y} ey => by
        rw [G_210]
        refine in_neg (by decide) (ob_mk s1 (in_pos (by rw [s4]; rfl) (ob_mk (v := cm) ?_ (ob_mk g2 ey))))
        rw [s3.2.2.1, nI_1, hcm]
      have comb : ∀ {y : Option Nat × Cl × Cl × Cl × Ad} {z : Int32 × Cl}, RHo rd hr ho B2 rx.1 rx.2.1 rx.2.2 rm.2 d y z → RHo rd hr ho B2 c1 c2 c3 c12 d y z := fun {y z} h => ⟨⟨oth_tr o1 h.1.1, ⟨kp_tr o2 h.1.2.1.1, oth_tr o3 h.1.2.1.2⟩, ⟨kp_tr (kp_tr x2 o4) h.1.2.2.1.1, oth_tr (oth_tr x3 o5) h.1.2.2.1.2⟩, h.1.2.2.2.1, kp_tr (kp_tr (kp_wd kc (by decide)) (kp_wd o6 (by decide))) h.1.2.2.2.2.1, h.1.2.2.2.2.2⟩, h.2⟩
      rcases o7 with ⟨w1, p', D', H', Q', w2⟩ | ⟨w1, w2⟩
      · obtain ⟨v1, v2⟩ := g4 w1
        obtain ⟨y, z, y1, y2, y3⟩ := rec p' D' H' Q' rx.1 rx.2.1 rx.2.2 rm.2 v2 (by rw [(o6 11 (by decide)).1, (kc 11 (by decide)).1]; exact h11) v1 w2
        exact ⟨y, z, hx y1, hm (by rw [w1]; exact y2), comb y3⟩
      · obtain ⟨y, z, y1, y2, y3⟩ := rd_bad (c1 := rx.1) (c11 := c11) (d := d) (ho := ho) (cn := nI (cn + 1)) hu l4 e2' w2
        exact ⟨y, z, hx y1, hm (by rw [w1]; exact y2), comb y3⟩
    · -- the end
      have lp := kd_35 a
      rw [if_neg (by omega)] at s4
      obtain ⟨s5, t1, t2, t3, t4⟩ := f_177 (c := s0.2) (B2 := B2) hu l4 s3
      rw [pp, if_neg (show ¬ p < l by omega)] at t4
      rw [pp] at t3
      have kc : Kp [8] c12 s5.2 := kp_tr s2 t2
      have g1 : G_15 c11 d hr 1 [] [] [ho] c1 c2 r.2 = some (some ho, c1, c2, r.2, d) := by
        rw [G_15, e2]; exact in_pos f rfl
      have m1 : G_210 B2 1 [1] [] [] s0.2 = some (1, sI s5.2 1 B2 0) := by
        rw [G_210]
        refine ob_mk (v := s5.2) (in_neg (by decide) (ob_mk t1 (in_pos t4 rfl))) (ob_mk rfl (ob_mk (v := (1 : Int32)) (if_pos ?_) rfl))
        rw [cI_sI, if_neg (fun z => absurd z.1 (by decide)), (kc 9 (by decide)).1]; exact h9
      have z7 : cA (sI s5.2 1 B2 0) 7 B2 = cA c12 7 B2 := by rw [cA_sI, (kc 7 (by decide)).2.2.2.1]
      refine ⟨(some ho, c1, c2, r.2, d), (1, sI s5.2 1 B2 0), ob_mk x1 (by rw [b, G_15]; exact in_neg n40 (in_pos rfl g1)), by rw [G_210]; exact in_neg (by decide) (ob_mk s1 (in_neg (by rw [s4]; decide) m1)), ⟨oth_rf _ _, ⟨kp_rf _ _, oth_rf _ _⟩, ⟨x2, x3⟩, rfl, kp_tr (kp_wd kc (by decide)) (kp_I (by decide)), by rw [cI_same]⟩, Or.inl ⟨rfl, rfl, R, D, H, Q, cI c2 1 hr, r1, r6, ?_⟩⟩
      show HR c1 ho (cA (sI s5.2 1 B2 0) 7 B2) R D H Q (cI c2 1 hr)
      rw [z7]; exact hH
    · -- something else
      have lp : p < l := by
        refine Classical.byContradiction fun z => a2 ?_
        unfold kd; rw [if_neg z]
      have u59 : u p ≠ 59 := fun z => a (kd59.mpr ⟨lp, z⟩)
      have ub := hu p
      rw [if_pos lp] at s4
      obtain ⟨s5, t1, t2, t3, t4⟩ := f_177 (c := s0.2) (B2 := B2) hu l4 s3
      rw [pp, if_pos lp] at t4
      rw [pp] at t3
      have kc : Kp [8] c12 s5.2 := kp_tr s2 t2
      obtain ⟨v, v1, v2, v3, v4, -⟩ := f_176 (c := s5.2) (B2 := B2) (w := 0) (p := p)
      have e9 := v4 (by rw [(kc 9 (by decide)).1]; exact h9)
      have nzf : ¬ nI (flt p 0) = 0 := flt_ne (by omega) (by decide)
      have g1 : G_15 c11 d hr 1 [] [] [ho] c1 c2 r.2 = some (none, c1, c2, r.2, d) := by
        rw [G_15, e2]; exact in_neg (by rw [f]; exact nzf) rfl
      have m1 : G_210 B2 1 [1] [] [] s0.2 = some (0, sI v.2 1 B2 0) := by
        rw [G_210]
        refine ob_mk (v := v.2) (in_neg (by decide) (ob_mk t1 (in_neg ?_ (ob_mk (v := v) ?_ rfl)))) (ob_mk rfl (ob_mk (v := (0 : Int32)) (if_neg ?_) rfl))
        · rw [t4]
          intro z
          have : ¬ (-1 : Int32) < 0 := by rw [← z]; exact nI_pos (by omega)
          exact this (by decide)
        · rw [t3.2.2.1]; exact v1
        · rw [cI_sI, if_neg (fun z => absurd z.1 (by decide)), e9]; exact nzf
      refine ⟨(none, c1, c2, r.2, d), (0, sI v.2 1 B2 0), ob_mk x1 (by rw [b, G_15]; exact in_neg n40 (in_pos rfl g1)), by rw [G_210]; exact in_neg (by decide) (ob_mk s1 (in_neg (by rw [s4]; exact fun z => u59 ((nI_eq (a := u p) (b := 59) (by omega) (by omega)).mp z)) m1)), ⟨oth_rf _ _, ⟨kp_rf _ _, oth_rf _ _⟩, ⟨x2, x3⟩, rfl, kp_tr (kp_wd kc (by decide)) (kp_tr (kp_wd v3 (by decide)) (kp_I (by decide))), by rw [cI_same]⟩, Or.inr ⟨rfl, rfl, flt p 0, f, ?_⟩⟩
      show cI (sI v.2 1 B2 0) 9 B2 = _
      rw [cI_sI, if_neg (fun z => absurd z.1 (by decide))]; exact e9
    · exact absurd h7 z
  induction m with
  | zero =>
    intro cn p D H Q c1 c2 c3 c12 hc h1 h11 h14 hS
    exact key cn p D H Q c1 c2 c3 c12 (by omega) h1 h11 h14 hS (fun q D' H' Q' c1' c2' c3' c12' hc' _ _ _ => by omega)
  | succ m ih =>
    intro cn p D H Q c1 c2 c3 c12 hc h1 h11 h14 hS
    exact key cn p D H Q c1 c2 c3 c12 (by omega) h1 h11 h14 hS (fun q D' H' Q' c1' c2' c3' c12' hc' a1 a2 a3 => ih (cn + 1) q D' H' Q' c1' c2' c3' c12' (by omega) (by omega) a1 a2 a3)
/-- all clauses, from the reader's begin on -/
theorem rd_all (hu : ∀ j, u j < 256) (l4 : l ≤ 400) (hF : Hf c1 ho) (hY : Yf (cA c12 7 B2)) (lg0 : cI c2 1 hr = 0) (e2 : cR c2 0 hr = rd) (hd : RD c3 rd u l p) (h7 : cI c3 7 rd = 0) (hR : RP c12 B2 u l n) (hp : sk u l n = p) (h9 : cI c12 9 B2 = 0) (h11 : cI c12 11 B2 = 6) (h14 : cI c12 14 B2 = 0) : ∃ rx rm, G_15 c11 d hr 0 [1, 0] [] [ho] c1 c2 c3 = some rx ∧ (F_209 c12 B2 >>= fun r6 => G_210 B2 0 [r6.1] [] [] r6.2) = some rm ∧ RHo rd hr ho B2 c1 c2 c3 c12 d rx rm := by
  obtain ⟨rx, rm, g1, g2, o1, ⟨o2, o3⟩, ⟨o4, o5⟩, o6, o7⟩ := cl_first hu l4 hF hY lg0 e2 hd h7 hR hp h9 h11 h14
  have e2' : cR rx.2.1 0 hr = rd := by rw [(o2 0 (by decide)).2.2.1]; exact e2
  have hx : ∀ {y}, (F_33 rx.2.2 rd >>= fun r18 => G_15 c11 d hr 0 [r18.1, nI 1] [] [ho] rx.1 rx.2.1 r18.2) = some y → G_15 c11 d hr 0 [1, 0] [] [ho] c1 c2 c3 = some y := fun {y} ey => by
    rw [G_15]
    refine in_neg (by decide) (in_neg (by decide) (ob_mk g1 ?_))
    rw [e2']
    exact ey
  have comb : ∀ {y : Option Nat × Cl × Cl × Cl × Ad} {z : Int32 × Cl}, RHo rd hr ho B2 rx.1 rx.2.1 rx.2.2 rm.2 d y z → RHo rd hr ho B2 c1 c2 c3 c12 d y z := fun {y z} h => ⟨⟨oth_tr o1 h.1.1, ⟨kp_tr o2 h.1.2.1.1, oth_tr o3 h.1.2.1.2⟩, ⟨kp_tr o4 h.1.2.2.1.1, oth_tr o5 h.1.2.2.1.2⟩, h.1.2.2.2.1, kp_tr (kp_wd o6 (by decide)) h.1.2.2.2.2.1, h.1.2.2.2.2.2⟩, h.2⟩
  rcases o7 with ⟨w1, w3, q, R, r2, r6, w2⟩ | ⟨w1, w2⟩
  · obtain ⟨y, z, y1, y2, y3⟩ := rd_loop (c11 := c11) (d := d) hu l4 r2 r6 39 1 q 0 0 0 rx.1 rx.2.1 rx.2.2 rm.2 rfl (by decide) (by rw [(o6 11 (by decide)).1]; exact h11) w3 w2
    exact ⟨y, z, hx y1, ob_mk g2 (by rw [w1]; exact y2), comb y3⟩
  · obtain ⟨y, z, y1, y2, y3⟩ := rd_bad (c1 := rx.1) (c11 := c11) (d := d) (ho := ho) (cn := nI 1) hu l4 e2' w2
    exact ⟨y, z, hx y1, ob_mk g2 (by rw [w1]; exact y2), comb y3⟩
end ReadH2
