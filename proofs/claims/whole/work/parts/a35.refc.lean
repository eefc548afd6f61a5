/-! ===== rules: room for signs; comparisons, the reference ===== -/
section Refc
variable {c : Cl} {B2 t : Nat} {u : Nat → Nat} {l : Nat} {x y : Ps} {j : Nat}
theorem sl_le {j' : Nat} (h : SL l j x) (hj : j' ≤ j) : SL l j' x := ⟨by have := h.1; omega, h.2⟩
theorem sl_due {o : Option Nat} (l4 : l ≤ 400) (h : SL l (j + oc o) x) : SL l j (pdue o x) := by
  cases o with
  | none => exact h
  | some s => exact (sl_put l4 h).2.1
theorem sl_skw (h : SL l j x) : SL l j (pskx u l x) := by
  by_cases w : rP x < l
  · exact sl_le (sl_sk w h) (by omega)
  · have e : pskx u l x = x := by
      show (skp u l (rP x), rV x, rK x, rC x) = x
      unfold skp; rw [if_neg w]; rfl
    rw [e]; exact h
theorem psl_ms (l4 : l ≤ 400) : ∀ (m : Nat) (o : Option Nat) (x y : Ps) (j : Nat), SL l (j + oc o) x → psl u l m o x = .inr y → SL l j y ∧ rP x ≤ rP y
  | 0, o, x, y, j, hs, e => by
    have e' : (Sum.inr (pdue o x) : Pr) = .inr y := e
    cases e'
    exact ⟨sl_due l4 hs, by rw [rP_due]; exact Nat.le_refl _⟩
  | m + 1, o, x, y, j, hs, e => by
    have tm : ∀ sg, kd u l (rP x) ≠ 35 → pb (pval u l (pskx u l x)) (fun y => psl u l m o (pput sg y)) = .inr y → SL l j y ∧ rP x ≤ rP y := fun sg hk e => by
      have pl := kd_lt_l (u := u) (x := x) hk
      cases hv : pval u l (pskx u l x) with
      | inl f => rw [hv] at e; cases e
      | inr z =>
        rw [hv] at e
        have s1 := sl_val (sl_sk (u := u) pl hs) hv l4
        have r := psl_ms l4 m o (pput sg z) y j (sl_put l4 s1).2.1 e
        have p1 := rP_val hv
        have p2 := skp_ge (u := u) (l := l) (rP x)
        have p3 := skp_ge (u := u) (l := l) (skp u l (rP x))
        have p4 : rP (pskx u l x) = skp u l (rP x) := rfl
        rw [rP_put, p1, p4] at r
        exact ⟨r.1, by omega⟩
    have pm : ∀ sg, kd u l (rP x) ≠ 35 → (sg = 20 ∨ sg = 21) → pb (pval u l (pdue o (pskx u l x))) (psl u l m (some sg)) = .inr y → SL l j y ∧ rP x ≤ rP y := fun sg hk _ e => by
      have pl := kd_lt_l (u := u) (x := x) hk
      cases hv : pval u l (pdue o (pskx u l x)) with
      | inl f => rw [hv] at e; cases e
      | inr z =>
        rw [hv] at e
        have s0 : SL l (j + 1 + oc o) (pskx u l x) := sl_le (sl_sk (u := u) pl hs) (by omega)
        have s1 := sl_val (sl_due l4 s0) hv l4
        have r := psl_ms l4 m (some sg) z y j s1 e
        have p1 := rP_val hv
        have p2 := skp_ge (u := u) (l := l) (rP x)
        have p3 := skp_ge (u := u) (l := l) (skp u l (rP x))
        have p4 : rP (pdue o (pskx u l x)) = skp u l (rP x) := rP_due
        rw [p1, p4] at r
        exact ⟨r.1, by omega⟩
    have e' : (if kd u l (rP x) = 142 then pb (pval u l (pskx u l x)) (fun y => psl u l m o (pput 22 y)) else if kd u l (rP x) = 147 then pb (pval u l (pskx u l x)) (fun y => psl u l m o (pput 23 y)) else if kd u l (rP x) = 143 then pb (pval u l (pdue o (pskx u l x))) (psl u l m (some 20)) else if kd u l (rP x) = 145 then pb (pval u l (pdue o (pskx u l x))) (psl u l m (some 21)) else (Sum.inr (pdue o x) : Pr)) = .inr y := e
    split at e'
    · exact tm 22 (by omega) e'
    · split at e'
      · exact tm 23 (by omega) e'
      · split at e'
        · exact pm 20 (by omega) (Or.inl rfl) e'
        · split at e'
          · exact pm 21 (by omega) (Or.inr rfl) e'
          · cases e'
            exact ⟨sl_due l4 hs, by rw [rP_due]; exact Nat.le_refl _⟩
theorem psum_ms (l4 : l ≤ 400) (hs : SL l j x) (e : psum u l x = .inr y) : SL l j y ∧ rP x ≤ rP y := by
  unfold psum at e
  cases hv : pval u l x with
  | inl f => rw [hv] at e; cases e
  | inr z =>
    rw [hv] at e
    have r := psl_ms l4 400 none z y j (sl_val hs hv l4) e
    have p1 := rP_val hv
    have p2 := skp_ge (u := u) (l := l) (rP x)
    exact ⟨r.1, by omega⟩
theorem psgn_ms (hs : SL l j x) (e : psgn u l x = .inr y) : SL l (j + 1) y ∧ rP x ≤ rP y ∧ ∃ s, psig (kd u l (rP x)) = some s := by
  unfold psgn at e
  cases hk : psig (kd u l (rP x)) with
  | none => rw [hk] at e; cases e
  | some s =>
    rw [hk] at e
    have e' : (if 60 ≤ rV x then (Sum.inl (flt (rP x) 3) : Pr) else .inr (pskx u l (pinc x))) = .inr y := e
    split at e'
    · cases e'
    · rename_i hv
      cases e'
      have k35 : kd u l (rP x) ≠ 35 := fun z => by rw [z] at hk; cases hk
      exact ⟨sl_sk (x := pinc x) (kd_lt_l (u := u) (x := x) k35) ⟨hs.1, hs.2.1, by show rV x + 1 ≤ 60; omega⟩, skp_ge _, s, rfl⟩
theorem pcmp_ms (l4 : l ≤ 400) (hs : SL l j x) (e : pcmp u l x = .inr y) : SL l j y ∧ rP x ≤ rP y := by
  unfold pcmp at e
  cases h1 : psum u l x with
  | inl f => rw [h1] at e; cases e
  | inr a =>
    rw [h1] at e
    have r1 := psum_ms l4 hs h1
    have e1 : pb (psgn u l a) (fun z => pb (psum u l z) (fun w => .inr (pput ((psig (kd u l (rP a))).getD 0) w))) = .inr y := e
    cases h2 : psgn u l a with
    | inl f => rw [h2] at e1; cases e1
    | inr b =>
      rw [h2] at e1
      have r2 := psgn_ms r1.1 h2
      have e2 : pb (psum u l b) (fun w => .inr (pput ((psig (kd u l (rP a))).getD 0) w)) = .inr y := e1
      cases h3 : psum u l b with
      | inl f => rw [h3] at e2; cases e2
      | inr w =>
        rw [h3] at e2
        have r3 := psum_ms l4 r2.1 h3
        cases e2
        exact ⟨(sl_put l4 r3.1).2.1, by rw [rP_put]; omega⟩
/-- the signs of facts, as pieces -/
theorem kd_60 {p : Nat} (hp : p < l) (h : u p = 60 ∨ u p = 62) : ((p + 1 < l ∧ u (p + 1) = 61) ∧ kd u l p = (if u p = 60 then 32 else 33) ∧ nxt u l p = p + 2) ∨ (¬ (p + 1 < l ∧ u (p + 1) = 61) ∧ kd u l p = 100 + u p ∧ nxt u l p = p + 1) := by
  have d : ¬ isD (u p) = true := fun z => by have := isD_t.mp z; omega
  have e : ¬ isL (u p) = true := fun z => by have := isL_t.mp z; omega
  by_cases w : p + 1 < l ∧ u (p + 1) = 61
  · refine Or.inl ⟨w, ?_, ?_⟩
    · unfold kd; rw [if_pos hp, if_neg d, if_neg e, if_pos ⟨h, w⟩]
    · unfold nxt; rw [if_neg d, if_neg e, if_pos ⟨h, w⟩]
  · refine Or.inr ⟨w, ?_, ?_⟩
    · unfold kd; rw [if_pos hp, if_neg d, if_neg e, if_neg (fun z => w z.2)]
    · unfold nxt; rw [if_neg d, if_neg e, if_neg (fun z => w z.2)]
theorem kd_n60 {p : Nat} (h : ¬ (p < l ∧ (u p = 60 ∨ u p = 62))) : kd u l p ≠ 32 ∧ kd u l p ≠ 33 ∧ kd u l p ≠ 160 ∧ kd u l p ≠ 162 := by
  unfold kd
  by_cases w : p < l
  · have h' : ¬ (u p = 60 ∨ u p = 62) := fun z => h ⟨w, z⟩
    rw [if_pos w]
    by_cases d : isD (u p) = true
    · rw [if_pos d]; split <;> omega
    · rw [if_neg d]
      by_cases e : isL (u p) = true
      · rw [if_pos e]
        rcases wk_lt (u := u) (p := p) (n := le u l p - p) with z | z <;> omega
      · rw [if_neg e, if_neg (fun z => h' z.1)]; omega
  · rw [if_neg w]; omega
theorem sg_61 : sgc 61 := by unfold sgc; omega
theorem f_193 (hu : ∀ j, u j < 256) (l4 : l ≤ 400) (ht : t < 6) (h : RQ B2 t u l c x) (hs : SL l j x) : Rn (F_193 c B2) (fun q => FQ B2 t [3, 4, 8, 9, 10, 12] c q.2 ∧ QO B2 t u l (pcmp u l x) q) := by
  obtain ⟨q, g1, g2, g3⟩ := f_192 (j := j) hu l4 ht h hs
  unfold F_193 pcmp
  refine rn_e g1 ?_
  cases h1 : psum u l x with
  | inl f =>
    rw [h1] at g3
    exact rn_p g3.1 (rn_r ⟨g2, ⟨rfl, g3.2⟩⟩)
  | inr a =>
    rw [h1] at g3
    have r1 := psum_ms l4 hs h1
    refine rn_n (by rw [g3.1]; decide) (rn_b (f_177q hu l4 g3.2) (fun s ⟨a2, a3, a4, a5, a6⟩ => ?_))
    have fs : FQ B2 t [3, 4, 8, 9, 10, 12] c s.2 := fq_tr g2 (fq_k a2 (by decide) (by decide))
    obtain ⟨h0, hh1, h8, hl⟩ := id a4
    have ub := hu (rP a)
    -- a sign stands here
    have good : ∀ (ch : Nat) (b : Bool) (sg : Nat) (pn : Nat), rP a < l → u (rP a) = ch → ch < 128 → pn = nxt u l (rP a) → pn ≤ l → ((ch = 61 ∧ b = false ∧ sg = 26 ∧ pn = rP a + 1) ∨ (ch = 60 ∧ b = true ∧ sg = 25 ∧ pn = rP a + 2) ∨ (ch = 60 ∧ b = false ∧ sg = 24 ∧ pn = rP a + 1) ∨ (ch = 62 ∧ b = true ∧ sg = 27 ∧ pn = rP a + 2) ∨ (ch = 62 ∧ b = false ∧ sg = 28 ∧ pn = rP a + 1)) → psig (kd u l (rP a)) = some sg → (b = true ↔ (ch ≠ 61 ∧ rP a + 1 < l ∧ u (rP a + 1) = 61)) → Rn (G_193 s.2 B2 0 [nI ch, nI (rP a)] [] []) (fun q => FQ B2 t [3, 4, 8, 9, 10, 12] c q.2 ∧ QO B2 t u l (pb (psgn u l a) (fun z => pb (psum u l z) (fun w => .inr (pput ((psig (kd u l (rP a))).getD 0) w)))) q) := fun ch b sg pn pl uch hch hpn hpl hcase hsg hb => by
      have hp1 : b = false → pn = rP a + 1 := fun hbf => by
        rcases hcase with ⟨_, c2, _, c4⟩ | ⟨_, c2, _, c4⟩ | ⟨_, c2, _, c4⟩ | ⟨_, c2, _, c4⟩ | ⟨_, c2, _, c4⟩
        · exact c4
        · rw [hbf] at c2; cases c2
        · exact c4
        · rw [hbf] at c2; cases c2
        · exact c4
      have hp2 : b = true → pn = rP a + 2 := fun hbf => by
        rcases hcase with ⟨_, c2, _, c4⟩ | ⟨_, c2, _, c4⟩ | ⟨_, c2, _, c4⟩ | ⟨_, c2, _, c4⟩ | ⟨_, c2, _, c4⟩
        · rw [hbf] at c2; cases c2
        · exact c4
        · rw [hbf] at c2; cases c2
        · exact c4
        · rw [hbf] at c2; cases c2
      rw [G_193]
      refine rn_s ?_
      obtain ⟨d1, hd1⟩ : ∃ d1, d1 = sI s.2 8 B2 ((cI s.2 8 B2) + 1) := ⟨_, rfl⟩
      rw [← hd1]
      have k1 : Kp [8] s.2 d1 := by rw [hd1]; exact kp_I (by decide)
      have e8 : cI d1 8 B2 = nI (rP a + 1) := by rw [hd1, cI_same, h8, nI_1]
      have e1 : cI d1 1 B2 = nI l := by rw [(k1 1 (by decide)).1]; exact hh1
      have e0 : ∀ j, j < l → cA d1 0 B2 j = bI (u j) := fun j hj => by rw [(k1 0 (by decide)).2.2.2.1]; exact h0 j hj
      rw [e8, e1]
      refine rn_e (v := bO b) ?_ ?_
      · by_cases c61 : ch = 61
        · have : b = false := by cases hbb : b; rfl; exact absurd c61 (hb.mp hbb).1
          subst this
          exact in_pos (by rw [c61]; rfl) rfl
        · refine in_neg (fun z => c61 ((nI_eq (a := ch) (b := 61) (by omega) (by omega)).mp z)) ?_
          by_cases w : rP a + 1 < l
          · refine in_neg (nI_ge w (by omega)) (ob_mk ((ald_ok (by omega) (by decide)).trans (by rw [e0 _ w])) ?_)
            by_cases v : u (rP a + 1) = 61
            · have : b = true := hb.mpr ⟨c61, w, v⟩
              subst this
              exact in_pos ((bI_eq (hu _) (c := 61) (by decide)).mpr v) rfl
            · have : b = false := by cases hbb : b; rfl; exact absurd (hb.mp hbb).2.2 v
              subst this
              exact in_neg (fun z => v ((bI_eq (hu _) (c := 61) (by decide)).mp z)) rfl
          · have : b = false := by cases hbb : b; rfl; exact absurd (hb.mp hbb).2.1 w
            subst this
            exact in_pos (nI_le (by omega) (by omega)) rfl
      · refine rn_b (P := fun d2 => Kp [8] s.2 d2 ∧ cI d2 8 B2 = nI pn) ?_ (fun d2 ⟨k2, e82⟩ => ?_)
        · cases b with
          | false => exact rn_p rfl (rn_r ⟨k1, by rw [e8, hp1 rfl]⟩)
          | true =>
            refine rn_n (by decide) (rn_s (rn_r ⟨kp_tr k1 (kp_I (by decide)), ?_⟩))
            rw [cI_same, nI_1, hp2 rfl]
        · have Q2 : RQ B2 t u l d2 (pskx u l a) := RQ_8 (x := a) k2 (RP_n k2 a4 e82 hpl) (by show sk u l pn = skp u l (rP a); unfold skp; rw [if_pos pl, hpn]) rfl rfl rfl a3
          have fd : FQ B2 t [3, 4, 8, 9, 10, 12] c d2 := fq_tr fs (fq_k k2 (by decide) (by decide))
          refine rn_b (f_186 (p := rP a) Q2 r1.1.2.2) (fun q3 ⟨k3, hq3⟩ => ?_)
          have fd3 : FQ B2 t [3, 4, 8, 9, 10, 12] c q3.2 := fq_tr fd (fq_k k3 (by decide) (by decide))
          have hq3 : (60 ≤ rV a ∧ q3.1 = 0 ∧ cI q3.2 9 B2 = nI (flt (rP a) 3)) ∨ (rV a < 60 ∧ q3.1 = 1 ∧ RQ B2 t u l q3.2 (pinc (pskx u l a))) := hq3
          have ep : psgn u l a = if 60 ≤ rV a then .inl (flt (rP a) 3) else .inr (pskx u l (pinc a)) := by unfold psgn; rw [hsg]
          rcases hq3 with ⟨v1, v2, v3⟩ | ⟨v1, v2, v3⟩
          · rw [if_pos v1] at ep
            rw [ep]
            exact rn_p v2 (rn_r ⟨fd3, ⟨rfl, v3⟩⟩)
          · rw [if_neg (by omega)] at ep
            have sl2 := (psgn_ms r1.1 ep).1
            rw [ep]
            refine rn_n (by rw [v2]; decide) (rn_e (v := nI (sg - 24)) ?_ ?_)
            · rcases hcase with ⟨c1, c2, c3, _⟩ | ⟨c1, c2, c3, _⟩ | ⟨c1, c2, c3, _⟩ | ⟨c1, c2, c3, _⟩ | ⟨c1, c2, c3, _⟩ <;> subst c1 c2 c3 <;> rfl
            · refine rn_b (f_192 (j := j + 1) hu l4 ht v3 sl2) (fun q4 ⟨f4, h4⟩ => ?_)
              show Rn _ (fun q => FQ B2 t [3, 4, 8, 9, 10, 12] c q.2 ∧ QO B2 t u l (pb (psum u l (pskx u l (pinc a))) (fun w => .inr (pput ((psig (kd u l (rP a))).getD 0) w))) q)
              rw [hsg]
              cases h5 : psum u l (pskx u l (pinc a)) with
              | inl f =>
                have h4' : QO B2 t u l (psum u l (pskx u l (pinc a))) q4 := h4
                rw [h5] at h4'
                exact rn_p h4'.1 (rn_r ⟨fq_tr fd3 f4, ⟨rfl, h4'.2⟩⟩)
              | inr w =>
                have h4' : QO B2 t u l (psum u l (pskx u l (pinc a))) q4 := h4
                rw [h5] at h4'
                have r5 := psum_ms l4 sl2 h5
                have sp := sl_put (s := sg) l4 r5.1
                refine rn_n (by rw [h4'.1]; decide) ?_
                rw [show (6 : Int32) + nI (sg - 24) = nI (6 + (sg - 24)) from nI_add 6 _]
                refine rn_b (f_185 (s := 6 + (sg - 24)) (v := 0) (sg := sg) ht sp.1 ?_ h4'.2) (fun c' ⟨f5, h6⟩ => rn_r ⟨fq_tr fd3 (fq_tr f4 (fq_wd f5 (by decide))), ⟨rfl, h6⟩⟩)
                rcases hcase with ⟨_, _, c3, _⟩ | ⟨_, _, c3, _⟩ | ⟨_, _, c3, _⟩ | ⟨_, _, c3, _⟩ | ⟨_, _, c3, _⟩ <;> subst c3 <;> decide
    have s8 : cI s.2 8 B2 = nI (rP a) := h8
    rw [s8]
    by_cases w : rP a < l ∧ (u (rP a) = 60 ∨ u (rP a) = 62)
    · rw [if_pos w.1] at a6
      rw [a6]
      have nl := nxt_le (u := u) w.1
      rcases kd_60 w.1 w.2 with ⟨b1, b2, b3⟩ | ⟨b1, b2, b3⟩
      · rcases w.2 with v | v
        · rw [v, if_pos rfl] at b2
          rw [v]
          exact rn_p rfl (good 60 true 25 (rP a + 2) w.1 v (by decide) b3.symm (by omega) (by simp) (by rw [b2]; rfl) ⟨fun _ => ⟨by decide, b1⟩, fun _ => rfl⟩)
        · rw [v, if_neg (by decide)] at b2
          rw [v]
          exact rn_n (by decide) (rn_n (by decide) (rn_p rfl (good 62 true 27 (rP a + 2) w.1 v (by decide) b3.symm (by omega) (by simp) (by rw [b2]; rfl) ⟨fun _ => ⟨by decide, b1⟩, fun _ => rfl⟩)))
      · rcases w.2 with v | v
        · rw [v] at b2
          rw [v]
          exact rn_p rfl (good 60 false 24 (rP a + 1) w.1 v (by decide) b3.symm (by omega) (by simp) (by rw [b2]; rfl) ⟨fun z => (by cases z), fun z => absurd z.2 b1⟩)
        · rw [v] at b2
          rw [v]
          exact rn_n (by decide) (rn_n (by decide) (rn_p rfl (good 62 false 28 (rP a + 1) w.1 v (by decide) b3.symm (by omega) (by simp) (by rw [b2]; rfl) ⟨fun z => (by cases z), fun z => absurd z.2 b1⟩)))
    · have n60 := kd_n60 w
      have x60 : ¬ s.1 = 60 := fun z => by
        rw [a6] at z
        by_cases v : rP a < l
        · rw [if_pos v] at z
          exact w ⟨v, Or.inl ((nI_eq (a := u (rP a)) (b := 60) (by omega) (by omega)).mp z)⟩
        · rw [if_neg v] at z; exact absurd z (by decide)
      have x62 : ¬ s.1 = 62 := fun z => by
        rw [a6] at z
        by_cases v : rP a < l
        · rw [if_pos v] at z
          exact w ⟨v, Or.inr ((nI_eq (a := u (rP a)) (b := 62) (by omega) (by omega)).mp z)⟩
        · rw [if_neg v] at z; exact absurd z (by decide)
      refine rn_n x60 ?_
      by_cases k61 : kd u l (rP a) = 161
      · have e61 := (a5 61 sg_61).mpr k61
        obtain ⟨pl, u61⟩ := (kd_ch sg_61.1 sg_61.2.1 sg_61.2.2.1 sg_61.2.2.2.1).mp k61
        have nc := nxt_ch (u := u) (l := l) (p := rP a) pl (by omega) (by omega) (by omega) (by omega)
        rw [e61]
        exact rn_p rfl (good 61 false 26 (rP a + 1) pl u61 (by decide) nc.1.symm (by omega) (by simp) (by rw [k61]; rfl) ⟨fun z => (by cases z), fun z => absurd rfl z.1⟩)
      · refine rn_n (fun z => k61 ((a5 61 sg_61).mp z)) (rn_n x62 (rn_b (f_176 (w := 0) (p := rP a)) (fun q2 ⟨q21, q22, q23, _⟩ => ?_)))
        rw [q21]
        have ep : psgn u l a = .inl (flt (rP a) 0) := by
          unfold psgn psig
          rw [if_neg n60.1, if_neg n60.2.1, if_neg n60.2.2.1, if_neg k61, if_neg n60.2.2.2]
        show Rn _ (fun q => FQ B2 t [3, 4, 8, 9, 10, 12] c q.2 ∧ QO B2 t u l (pb (psgn u l a) (fun z => pb (psum u l z) (fun w => .inr (pput ((psig (kd u l (rP a))).getD 0) w)))) q)
        rw [ep]
        exact rn_e zb_0 (rn_r ⟨fq_tr fs (fq_k q22 (by decide) (by decide)), ⟨rfl, q23 a3.2.1⟩⟩)
end Refc
