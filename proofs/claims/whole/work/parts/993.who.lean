/-! ===== fits, who, first, next: the reference ===== -/
/-- a number of the reference that stands for a situation that comes -/
def on (S : Nat → Int32) (R H : Nat) (f : Nat → Nat) (c : Nat) : Bool := decide (psi S R H c < R ^ lc S H) && decide (ph S R H (psi S R H c) = c) && decide (¬ f (psi S R H c) = 0)
section Who
variable {c1 c8 : Cl} {st B2 : Nat} {S : Nat → Int32} {R D H Q M L E : Nat} {K : Nat → Nat} {f : Nat → Nat}
theorem on_t {c : Nat} : on S R H f c = true ↔ psi S R H c < R ^ lc S H ∧ ph S R H (psi S R H c) = c ∧ f (psi S R H c) ≠ 0 := by
  unfold on
  simp only [Bool.and_eq_true, decide_eq_true_eq, and_assoc]
theorem rv_on {g : Nat → Int64} (hR : 0 < R) (r6 : R ≤ 6) (h6 : H ≤ 6) (h : RV S R H g f) {c : Nat} (hc : c < 46656) : (on S R H f c = true ∧ g c = lN (f (psi S R H c))) ∨ (on S R H f c = false ∧ g c = 0) := by
  by_cases w : psi S R H c < R ^ lc S H ∧ ph S R H (psi S R H c) = c
  · have v := h.1 _ w.1
    rw [w.2] at v
    by_cases u : f (psi S R H c) = 0
    · refine Or.inr ⟨?_, by rw [v, u]; rfl⟩
      unfold on; simp [u]
    · exact Or.inl ⟨on_t.mpr ⟨w.1, w.2, u⟩, v⟩
  · refine Or.inr ⟨?_, h.2 c hc (fun s hs e => w (by rw [← e, psi_ph hR r6 h6 hs]; exact ⟨hs, rfl⟩))⟩
    cases e : on S R H f c with
    | false => rfl
    | true => exact absurd ⟨(on_t.mp e).1, (on_t.mp e).2.1⟩ w
theorem on_sum (hR : 0 < R) (r6 : R ≤ 6) (h6 : H ≤ 6) {G : Nat → Nat} : sn (fun c => if on S R H f c = true then G (psi S R H c) else 0) 46656 = sn (fun s => if f s = 0 then 0 else G s) (R ^ lc S H) := by
  rw [inj_sum (N := R ^ lc S H) (φ := ph S R H) (fun s t a b => ph_inj hR r6 h6 a b) (fun s _ => ph_lt hR r6 s) (fun c hc z => by
    by_cases w : on S R H f c = true
    · exact ⟨_, (on_t.mp w).1, (on_t.mp w).2.1⟩
    · rw [if_neg w] at z; exact absurd rfl z)]
  refine sn_cg fun s hs => ?_
  have e := psi_ph (S := S) hR r6 h6 hs
  by_cases w : f s = 0
  · rw [if_pos w, if_neg (fun z => (on_t.mp z).2.2 (by rw [e]; exact w))]
  · rw [if_neg w, if_pos (on_t.mpr (by rw [e]; exact ⟨hs, rfl, w⟩)), e]
theorem on_any (hR : 0 < R) (r6 : R ≤ 6) (h6 : H ≤ 6) {p : Nat → Bool} : anyb (fun c => on S R H f c && p (psi S R H c)) 46656 = anyb (fun s => decide (¬ f s = 0) && p s) (R ^ lc S H) := by
  rw [Bool.eq_iff_iff, anyb_t, anyb_t]
  constructor
  · rintro ⟨c, hc, z⟩
    rw [Bool.and_eq_true] at z
    obtain ⟨a, b, e⟩ := on_t.mp z.1
    exact ⟨_, a, by rw [z.2]; simp [e]⟩
  · rintro ⟨s, hs, z⟩
    simp only [Bool.and_eq_true, decide_eq_true_eq] at z
    have e := psi_ph (S := S) hR r6 h6 hs
    exact ⟨ph S R H s, ph_lt hR r6 s, by rw [Bool.and_eq_true]; exact ⟨on_t.mpr (by rw [e]; exact ⟨hs, rfl, z.1⟩), by rw [e]; exact z.2⟩⟩
theorem lgp {n : Nat} (h : n < 2 ^ 60) : lg_cmp (lN n) 0 ≤ 0 ↔ n = 0 := by
  unfold lg_cmp
  have a : ¬ lN n < 0 := fun z => by have := (pk_lLT (a := n) (b := 0) (by omega) (by decide)).mp z; omega
  by_cases w : n = 0
  · subst w; decide
  · have b : ¬ lN n = 0 := fun z => w ((lN_z h).mp z)
    have c : 0 < lN n := (pk_lLT (a := 0) (b := n) (by decide) (by omega)).mpr (by omega)
    simp [a, b, w, c]
/-- where one can be -/
theorem gl_265 {c : Cl} {h : Nat} (hS : SR c1 c8 st S R D H Q M L E K) (hR0 : 0 < R) (hP : Pw c B2) (hh : h < H) (hl : ¬ lv S h = 0) (fb : ∀ s, s < R ^ lc S H → f s < 2 ^ 60) (h26 : RV S R H (cB c 26 B2) f) : ∀ (m i : Nat), i + m = 46656 → G_265 c B2 0 [nI h, nI (mk (fun r => anyb (fun c => on S R H f c && decide (qs S R H (psi S R H c) h = r)) i) R), nI i] [] [] = some (nI (mk (fe S R H f (R ^ lc S H) h) R), c)
  | 0, i, hi => by
    have : i = 46656 := by omega
    subst this
    obtain ⟨⟨-, -, r6⟩, -, ⟨-, -, h6⟩, -⟩ := id hS.1.1
    rw [G_265]
    refine in_pos (by decide) ?_
    rw [mk_cg (q := fe S R H f (R ^ lc S H) h) (fun r _ => on_any (p := fun s => decide (qs S R H s h = r)) hR0 r6 h6)]
  | m + 1, i, hi => by
    have ih := gl_265 hS hR0 hP hh hl fb h26 m (i + 1) (by omega)
    obtain ⟨⟨-, -, r6⟩, -, ⟨-, -, h6⟩, -⟩ := id hS.1.1
    rw [G_265]
    refine in_neg (show ¬ (46656 : Int32) ≤ nI i from nI_ge (a := i) (b := 46656) (by omega) (by decide)) (ob_mk (ldl_ok (by omega) (by decide)) ?_)
    rcases rv_on hR0 r6 h6 h26 (show i < 46656 by omega) with ⟨o, v⟩ | ⟨o, v⟩
    · obtain ⟨a1, a2, a3⟩ := on_t.mp o
      have dg := ph_dg (S := S) (H := H) (s := psi S R H i) hR0 r6 h6 hh hl
      rw [a2] at dg
      have ql := qs_ok (S := S) (H := H) hR0 (psi S R H i) h hh hl
      have p0 : 0 < 6 ^ (5 - h) := Nat.pow_pos (by decide)
      have p1 : 6 ^ (5 - h) ≤ 6 ^ 6 := Nat.pow_le_pow_right (by decide) (by omega)
      have p2 : (6 : Nat) ^ 6 = 46656 := rfl
      have dl : i / 6 ^ (5 - h) ≤ i := Nat.div_le_self _ _
      rw [v]
      refine ob_mk (in_neg (fun z => a3 ((lgp (fb _ a1)).mp z)) (ob_mk (v := nI (6 ^ (5 - h))) ((ald_ok (by omega) (by decide)).trans (by rw [hP h (by omega)])) (ob_mk (v := nI (i / 6 ^ (5 - h))) (by unfold idv; rw [if_neg (nI_ne0 p0 (by omega)), pk_div (by omega) p0 (by omega)]) (ob_mk (v := nI (qs S R H (psi S R H i) h)) ((irm_ok (y := 6) (by omega) (by decide) (by decide)).trans (by rw [dg])) rfl)))) ?_
      rw [mk_or1 (by omega) ql, nI_1]
      refine Eq.trans ?_ ih
      congr 4
      refine mk_cg fun r _ => ?_
      show _ = (anyb _ i || (on S R H f i && decide (qs S R H (psi S R H i) h = r)))
      rw [o]
      by_cases y : qs S R H (psi S R H i) h = r
      · simp [y]
      · have y' : ¬ r = qs S R H (psi S R H i) h := fun z => y z.symm
        simp [y, y']
    · rw [v]
      refine ob_mk (in_pos (by decide) rfl) ?_
      rw [Int32.or_zero, nI_1]
      refine Eq.trans ?_ ih
      congr 4
      refine mk_cg fun r _ => ?_
      show _ = (anyb _ i || (on S R H f i && decide (qs S R H (psi S R H i) h = r)))
      rw [o]; simp
/-- how many come -/
theorem gl_268a {c : Cl} {x1 : Int32} (hS : SR c1 c8 st S R D H Q M L E K) (hR0 : 0 < R) (fb : ∀ s, s < R ^ lc S H → f s < 2 ^ 60) (h26 : RV S R H (cB c 26 B2) f) : ∀ (m i : Nat), i + m = 46656 → G_268 B2 0 [x1, nI (sn (fun c => if on S R H f c = true then 1 else 0) i), nI i] [] [] c = G_268 B2 0 [x1, nI (sn (fun s => if f s = 0 then 0 else 1) (R ^ lc S H)), 46656] [] [] c
  | 0, i, hi => by
    have : i = 46656 := by omega
    subst this
    obtain ⟨⟨-, -, r6⟩, -, ⟨-, -, h6⟩, -⟩ := id hS.1.1
    rw [on_sum (G := fun _ => 1) hR0 r6 h6]
    rfl
  | m + 1, i, hi => by
    have ih := gl_268a (x1 := x1) hS hR0 fb h26 m (i + 1) (by omega)
    obtain ⟨⟨-, -, r6⟩, -, ⟨-, -, h6⟩, -⟩ := id hS.1.1
    rw [← ih]
    conv => lhs; rw [G_268]
    rw [if_neg (show ¬ (46656 : Int32) ≤ nI i from nI_ge (a := i) (b := 46656) (by omega) (by decide))]
    refine ob_e (ldl_ok (by omega) (by decide)) ?_
    rw [nI_1]
    show _ = G_268 B2 0 [x1, nI (sn (fun c => if on S R H f c = true then 1 else 0) i + (if on S R H f i = true then 1 else 0)), nI (i + 1)] [] [] c
    rcases rv_on hR0 r6 h6 h26 (show i < 46656 by omega) with ⟨o, v⟩ | ⟨o, v⟩
    · obtain ⟨a1, a2, a3⟩ := on_t.mp o
      rw [v, o, if_pos rfl]
      refine ob_e (in_neg (fun z => a3 ((lgp (fb _ a1)).mp z)) rfl) ?_
      rw [nI_1]
    · rw [v, o]
      refine ob_e (in_pos (by decide) rfl) ?_
      rw [Int32.add_zero]; rfl
theorem mal_up {g g' : Nat → Nat} {y : Nat} (hg : ∀ i, i ≠ y → g' i = g i) (hy : g' y = g y + 1) : ∀ {n : Nat}, (y < n → mal g' n = if mal g n < g y + 1 then g y + 1 else mal g n) ∧ (¬ y < n → mal g' n = mal g n)
  | 0 => ⟨fun h => absurd h (Nat.not_lt_zero _), fun _ => rfl⟩
  | n + 1 => by
    have ih := mal_up hg hy (n := n)
    have e : mal g' (n + 1) = if mal g' n < g' n then g' n else mal g' n := rfl
    have e2 : mal g (n + 1) = if mal g n < g n then g n else mal g n := rfl
    refine ⟨fun h => ?_, fun h => ?_⟩
    · by_cases w : y = n
      · subst w
        rw [e, e2, ih.2 (Nat.lt_irrefl _), hy]
        split <;> (try split) <;> (try split) <;> omega
      · rw [e, e2, ih.1 (by omega), hg n (fun z => w z.symm)]
        split <;> (try split) <;> (try split) <;> (try split) <;> omega
    · rw [e, e2, ih.2 (by omega), hg n (by omega)]
/-- counts of one room so far, by the reference -/
def gr (S : Nat → Int32) (R H : Nat) (f : Nat → Nat) (r x i : Nat) : Nat := sn (fun c => if on S R H f c = true then (if laN S H (qs S R H (psi S R H c)) r = x then 1 else 0) else 0) i
theorem gr_ga (hR : 0 < R) (r6 : R ≤ 6) (h6 : H ≤ 6) {r x : Nat} : gr S R H f r x 46656 = ga S R H f (R ^ lc S H) r x := on_sum (G := fun s => if laN S H (qs S R H s) r = x then 1 else 0) hR r6 h6
theorem gr_le {r x i : Nat} : gr S R H f r x i ≤ i := by
  have := sn_le (f := fun c => if on S R H f c = true then (if laN S H (qs S R H (psi S R H c)) r = x then 1 else 0) else 0) (g := fun _ => 1) (n := i) (fun j _ => by
    show (if on S R H f j = true then (if laN S H (qs S R H (psi S R H j)) r = x then 1 else 0) else 0) ≤ 1
    split
    · split <;> omega
    · omega)
  rw [sn_k, Nat.mul_one] at this
  exact this
theorem gl_267b {c0 : Cl} {r : Nat} (hS : SR c1 c8 st S R D H Q M L E K) (hR0 : 0 < R) (eS : cA c0 20 B2 = S) (hP : Pw c0 B2) (hr : r < R) (fb : ∀ s, s < R ^ lc S H → f s < 2 ^ 60) (h26 : RV S R H (cB c0 26 B2) f) : ∀ (m i : Nat) (c' : Cl), i + m = 46656 → Kp [24, 28] c0 c' → (∀ x, x < 25 → cA c' 28 B2 x = nI (gr S R H f r x i)) → Rn (G_267 B2 1 [nI r, nI (mal (fun x => gr S R H f r x i) 25), nI i] [] [] c') (fun q => q.1 = nI (mal (ga S R H f (R ^ lc S H) r) 25) ∧ Kp [24, 28] c0 q.2)
  | 0, i, c', hi, hK, h1 => by
    have : i = 46656 := by omega
    subst this
    obtain ⟨⟨-, -, r6⟩, -, ⟨-, -, h6⟩, -⟩ := id hS.1.1
    rw [G_267]
    refine rn_p (by decide) (rn_r ⟨?_, hK⟩)
    dsimp only
    rw [mal_cg (g' := ga S R H f (R ^ lc S H) r) (fun x _ => gr_ga hR0 r6 h6)]
  | m + 1, i, c', hi, hK, h1 => by
    obtain ⟨⟨-, -, r6⟩, -, ⟨-, hH, h6⟩, -⟩ := id hS.1.1
    have e26 : cB c' 26 B2 = cB c0 26 B2 := by rw [(hK 26 (by decide)).2.2.2.2.1]
    rw [G_267]
    refine rn_n (show ¬ (46656 : Int32) ≤ nI i from nI_ge (a := i) (b := 46656) (by omega) (by decide)) (rn_ll (by omega) (by decide) ?_)
    rw [e26]
    have st : ∀ x, gr S R H f r x (i + 1) = gr S R H f r x i + (if on S R H f i = true then (if laN S H (qs S R H (psi S R H i)) r = x then 1 else 0) else 0) := fun x => rfl
    rcases rv_on hR0 r6 h6 h26 (show i < 46656 by omega) with ⟨o, v⟩ | ⟨o, v⟩
    · obtain ⟨a1, a2, a3⟩ := on_t.mp o
      rw [v]
      refine rn_n (fun z => a3 ((lN_z (fb _ a1)).mp (lgz.mp z))) ?_
      have lk := look_ok (S := S) (H := H) (c := c') (B2 := B2) (s := psi S R H i) hR0 r6 (pw_k hK (by decide) hP)
      rw [a2] at lk
      refine rn_b lk (fun q ⟨q1, q2⟩ => ?_)
      have eS' : cA q 20 B2 = S := by rw [(q1 20 (by decide)).2.2.2.1, (hK 20 (by decide)).2.2.2.1]; exact eS
      obtain ⟨y, hy⟩ : ∃ y, y = laN S H (qs S R H (psi S R H i)) r := ⟨_, rfl⟩
      have y24 : y ≤ 24 := by rw [hy]; exact laN_24 hS
      have lq : F_258 q B2 (nI r) = some (nI y) := by
        refine (f_258 (q := qs S R H (psi S R H i)) (by rw [eS']; exact hH) h6 (by rw [eS']; exact fun h a b => q2 h a b (by omega))).trans ?_
        rw [eS', la_nI hS (qs_ok hR0 _) hr, hy]
      refine rn_e lq ?_
      have e28 : cA q 28 B2 = cA c' 28 B2 := by rw [(q1 28 (by decide)).2.2.2.1]
      refine rn_ld (by omega) (by decide) ?_
      rw [e28, h1 y (by omega)]
      refine rn_st (by omega) (by decide) ?_
      rw [cA_same]
      refine rn_ld (by omega) (by decide) ?_
      rw [pk_us, nI_1]
      have gl := gr_le (S := S) (R := R) (H := H) (f := f) (r := r) (x := y) (i := i)
      have ml := mal_le (g := fun x => gr S R H f r x i) (B := i) (n := 25) (fun x _ => gr_le)
      have up := (mal_up (g := fun x => gr S R H f r x i) (g' := fun x => gr S R H f r x (i + 1)) (y := y) (fun x hx => by
        show gr S R H f r x (i + 1) = _
        rw [st, o, if_pos rfl, ← hy, if_neg (fun z => hx z.symm), Nat.add_zero]) (by
        show gr S R H f r y (i + 1) = _
        rw [st, o, if_pos rfl, ← hy, if_pos rfl]) (n := 25)).1 (by omega)
      refine rn_e (v := nI (mal (fun x => gr S R H f r x (i + 1)) 25)) ?_ ?_
      · rw [up]
        by_cases z : mal (fun x => gr S R H f r x i) 25 < gr S R H f r y i + 1
        · rw [if_pos z]
          exact in_neg (nI_ge z (by omega)) (ob_mk ((ald_ok (by omega) (by decide)).trans (by rw [pk_us])) rfl)
        · rw [if_neg z]
          exact in_pos (nI_le (by omega) (by omega)) rfl
      · rw [nI_1]
        refine gl_267b hS hR0 eS hP hr fb h26 m (i + 1) _ (by omega) (kp_tr hK (kp_tr (kp_wd q1 (by decide)) (kp_A (by decide)))) (fun x hx => ?_)
        rw [cA_same, st, o, if_pos rfl, ← hy]
        by_cases z : x = y
        · rw [z, pk_us, if_pos rfl]
        · rw [pk_un z, e28, if_neg (fun w => z w.symm), Nat.add_zero]; exact h1 x hx
    · rw [v]
      refine rn_p (lgz.mpr rfl) ?_
      rw [nI_1]
      have e : ∀ x, gr S R H f r x (i + 1) = gr S R H f r x i := fun x => by rw [st, o]; rfl
      rw [mal_cg (g := fun x => gr S R H f r x i) (g' := fun x => gr S R H f r x (i + 1)) (fun x _ => (e x).symm)]
      exact gl_267b hS hR0 eS hP hr fb h26 m (i + 1) c' (by omega) hK (fun x hx => by rw [e x]; exact h1 x hx)
theorem gl_267a {c0 : Cl} {r : Nat} (hS : SR c1 c8 st S R D H Q M L E K) (hR0 : 0 < R) (eS : cA c0 20 B2 = S) (hP : Pw c0 B2) (hr : r < R) (fb : ∀ s, s < R ^ lc S H → f s < 2 ^ 60) (h26 : RV S R H (cB c0 26 B2) f) : ∀ (m i : Nat) (c' : Cl), i + m = 25 → Kp [24, 28] c0 c' → (∀ x, x < i → cA c' 28 B2 x = 0) → Rn (G_267 B2 0 [nI r, nI i] [] [] c') (fun q => q.1 = nI (mal (ga S R H f (R ^ lc S H) r) 25) ∧ Kp [24, 28] c0 q.2)
  | 0, i, c', hi, hK, h1 => by
    have : i = 25 := by omega
    subst this
    rw [G_267]
    refine rn_p (by decide) ?_
    have g := gl_267b (c0 := c0) hS hR0 eS hP hr fb h26 46656 0 c' rfl hK (fun x hx => h1 x hx)
    rw [show mal (fun x => gr S R H f r x 0) 25 = 0 from Nat.le_zero.mp (mal_le fun x _ => Nat.le_refl _)] at g
    exact g
  | m + 1, i, c', hi, hK, h1 => by
    rw [G_267]
    refine rn_n (show ¬ (25 : Int32) ≤ nI i from nI_ge (a := i) (b := 25) (by omega) (by decide)) (rn_st (by omega) (by decide) ?_)
    rw [nI_1]
    refine gl_267a hS hR0 eS hP hr fb h26 m (i + 1) _ (by omega) (kp_tr hK (kp_A (by decide))) (fun x hx => ?_)
    rw [cA_same]
    by_cases z : x = i
    · rw [z, pk_us]
    · rw [pk_un z]; exact h1 x (by omega)
theorem f_267 {c0 : Cl} {r : Nat} (hS : SR c1 c8 st S R D H Q M L E K) (hR0 : 0 < R) (eS : cA c0 20 B2 = S) (hP : Pw c0 B2) (hr : r < R) (fb : ∀ s, s < R ^ lc S H → f s < 2 ^ 60) (h26 : RV S R H (cB c0 26 B2) f) : Rn (F_267 c0 B2 (nI r)) (fun q => q.1 = nI (mal (ga S R H f (R ^ lc S H) r) 25) ∧ Kp [24, 28] c0 q.2) := by
  unfold F_267
  exact gl_267a hS hR0 eS hP hr fb h26 25 0 c0 rfl (kp_rf _ _) (fun x hx => absurd hx (Nat.not_lt_zero _))
/-- the first room with the fewest -/
theorem gl_268b {c0 : Cl} {x1 : Int32} (hS : SR c1 c8 st S R D H Q M L E K) (hR0 : 0 < R) (eS : cA c0 20 B2 = S) (hP : Pw c0 B2) (fb : ∀ s, s < R ^ lc S H → f s < 2 ^ 60) (h26 : RV S R H (cB c0 26 B2) f) : ∀ (m r : Nat) (c' : Cl), r + 1 + m = R → Kp [24, 28] c0 c' → Rn (G_268 B2 1 [x1, nI (bs2 (fun r => mal (ga S R H f (R ^ lc S H) r) 25) r).1, nI (bs2 (fun r => mal (ga S R H f (R ^ lc S H) r) 25) r).2, nI (r + 1)] [] [] c') (fun q => q.1 = (if x1 = 0 then nI (bs2 (fun r => mal (ga S R H f (R ^ lc S H) r) 25) (R - 1)).1 else nI (bs2 (fun r => mal (ga S R H f (R ^ lc S H) r) 25) (R - 1)).2) ∧ Kp [24, 28] c0 q.2)
  | 0, r, c', hr, hK => by
    have : R = r + 1 := by omega
    subst this
    obtain ⟨⟨-, hR, r6⟩, -, ⟨-, hH, h6⟩, -⟩ := id hS.1.1
    have eS' : cA c' 20 B2 = S := by rw [(hK 20 (by decide)).2.2.2.1]; exact eS
    rw [G_268, eS']
    refine rn_e al_0 (rn_p (by rw [hR]; exact nI_le (Nat.le_refl _) (by omega)) ?_)
    rw [show r + 1 - 1 = r by omega]
    by_cases z : x1 = 0
    · rw [if_pos z, if_pos z]; exact rn_s (rn_r ⟨rfl, hK⟩)
    · rw [if_neg z, if_neg z]; exact rn_s (rn_r ⟨rfl, hK⟩)
  | m + 1, r, c', hr, hK => by
    obtain ⟨⟨-, hR, r6⟩, -, ⟨-, hH, h6⟩, -⟩ := id hS.1.1
    have eS' : cA c' 20 B2 = S := by rw [(hK 20 (by decide)).2.2.2.1]; exact eS
    have sz := pow_sz (S := S) r6 h6
    have mb : ∀ i, mal (ga S R H f (R ^ lc S H) i) 25 ≤ 46656 := fun i => Nat.le_trans (mal_le fun x _ => ga_le) sz
    have bl := bs2_le (m := fun r => mal (ga S R H f (R ^ lc S H) r) 25) (B := 46656) (n := r) (fun i _ => mb i)
    have mr := mb (r + 1)
    rw [G_268, eS']
    refine rn_e al_0 (rn_n (by rw [hR]; exact nI_ge (by omega) (by omega)) (rn_b (f_267 (c0 := c') (r := r + 1) hS hR0 eS' (pw_k hK (by decide) hP) (by omega) fb (by rw [(hK 26 (by decide)).2.2.2.2.1]; exact h26)) (fun q ⟨q1, q2⟩ => ?_)))
    rw [q1]
    have k2 := kp_tr hK q2
    refine rn_e (v := (nI (bs2 (fun r => mal (ga S R H f (R ^ lc S H) r) 25) (r + 1)).1, nI (bs2 (fun r => mal (ga S R H f (R ^ lc S H) r) 25) (r + 1)).2)) ?_ (by rw [nI_1]; exact gl_268b hS hR0 eS hP fb h26 m (r + 1) q.2 (by omega) k2)
    show _ = some (nI (if mal (ga S R H f (R ^ lc S H) (r + 1)) 25 < (bs2 (fun r => mal (ga S R H f (R ^ lc S H) r) 25) r).2 then (r + 1, mal (ga S R H f (R ^ lc S H) (r + 1)) 25) else bs2 (fun r => mal (ga S R H f (R ^ lc S H) r) 25) r).1, nI (if mal (ga S R H f (R ^ lc S H) (r + 1)) 25 < (bs2 (fun r => mal (ga S R H f (R ^ lc S H) r) 25) r).2 then (r + 1, mal (ga S R H f (R ^ lc S H) (r + 1)) 25) else bs2 (fun r => mal (ga S R H f (R ^ lc S H) r) 25) r).2)
    by_cases z : mal (ga S R H f (R ^ lc S H) (r + 1)) 25 < (bs2 (fun r => mal (ga S R H f (R ^ lc S H) r) 25) r).2
    · rw [if_pos z]; exact in_pos (nI_lt z (by omega)) rfl
    · rw [if_neg z]; exact in_neg (nI_nlt (by omega) (by omega)) rfl
end Who
