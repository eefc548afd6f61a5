/-! ===== what fits: the reference's minutes ===== -/
section Fit3
variable {c1 c8 : Cl} {st B2 : Nat} {S : Nat → Int32} {R D H Q M L E : Nat} {K : Nat → Nat}
theorem lgz {v : Int64} : lg_cmp v 0 = 0 ↔ v = 0 := lg_cmp_eq _ _
theorem lN_z {n : Nat} (h : n < 2 ^ 60) : lN n = 0 ↔ n = 0 := pk_lEQ (b := 0) (by omega) (by decide)
theorem pw_k {c c' : Cl} {Ks : List Nat} (hK : Kp Ks c c') (h : 25 ∉ Ks) (hP : Pw c B2) : Pw c' B2 := fun k hk => by rw [(hK 25 h).2.2.2.1]; exact hP k hk
/-- a situation is looked at -/
theorem look_ok {c : Cl} {s : Nat} (hR : 0 < R) (r6 : R ≤ 6) (hP : Pw c B2) : Rn (F_255 c B2 (nI (ph S R H s))) (fun r => Kp [24] c r ∧ ∀ h, h < H → ¬ lv S h = 0 → h < 6 → cA r 24 B2 h = nI (qs S R H s h)) :=
  rn_m (f_255 (q := qx S H (qs S R H s)) (qx_lt (qs_ok hR s) r6) hP) (fun r ⟨a, b⟩ => ⟨a, fun h hh hl z => by rw [b h z, qx_l hh hl]⟩)
/-- rooms of a head -/
theorem gl_262d {Po : Cl → Prop} {c0 : Cl} {s h : Nat} {f X : Nat → Nat} (hS : SR c1 c8 st S R D H Q M L E K) (hR0 : 0 < R) (eS : cA c0 20 B2 = S) (hP : Pw c0 B2) (hs : s < R ^ lc S H) (hh : h < H) (h24 : ∀ h, h < H → ¬ lv S h = 0 → cA c0 24 B2 h = nI (qs S R H s h)) (h26 : cB c0 26 B2 (ph S R H s) = lN (f s)) (ks : ∀ c', Kp [27] c0 c' → RV S R H (cB c' 27 B2) (fun t => X t + f s * (if lv S h = 0 then 0 else sn (fun r => ee S R D H s t h r) R)) → Rn (G_262 B2 2 [nI (ph S R H s), nI (h + 1)] [] [] c') Po) : ∀ (m r : Nat) (c' : Cl), r + m = R → Kp [27] c0 c' → RV S R H (cB c' 27 B2) (fun t => X t + f s * (if lv S h = 0 then 0 else sn (fun r => ee S R D H s t h r) r)) → Rn (G_262 B2 3 [nI (ph S R H s), nI h, nI r] [] [] c') Po
  | 0, r, c', hr, hK, h1 => by
    have : r = R := by omega
    subst this
    obtain ⟨⟨-, hR, r6⟩, -⟩ := hS.1.1
    have eS' : cA c' 20 B2 = S := by rw [(hK 20 (by decide)).2.2.2.1]; exact eS
    rw [G_262, eS']
    refine rn_e al_0 (rn_p (by rw [hR]; exact nI_le (Nat.le_refl _) (by omega)) ?_)
    rw [nI_1]
    exact ks c' hK h1
  | m + 1, r, c', hr, hK, h1 => by
    obtain ⟨⟨-, hR, r6⟩, ⟨-, hD, d10⟩, ⟨-, hH, h6⟩, -⟩ := hS.1.1
    have eS' : cA c' 20 B2 = S := by rw [(hK 20 (by decide)).2.2.2.1]; exact eS
    have h24' : ∀ h, h < H → ¬ lv S h = 0 → cA c' 24 B2 h = nI (qs S R H s h) := fun k a b => by rw [(hK 24 (by decide)).2.2.2.1]; exact h24 k a b
    have n260 := f_260 (q := qs S R H s) (c := c') (B2 := B2) (h := h) (r := r) (H := H) (D := D) (by rw [eS']; exact hH) h6 (by rw [eS']; exact hD) d10 (by rw [eS']; exact h24') hh (by omega)
    rw [eS'] at n260
    have go : ∀ c'', Kp [27] c0 c'' → RV S R H (cB c'' 27 B2) (fun t => X t + f s * (if lv S h = 0 then 0 else sn (fun r => ee S R D H s t h r) (r + 1))) → Rn (G_262 B2 3 [nI (ph S R H s), nI h, nI r + 1] [] [] c'') Po := fun c'' k1 k2 => by
      rw [nI_1]; exact gl_262d hS hR0 eS hP hs hh h24 h26 ks m (r + 1) c'' (by omega) k1 k2
    rw [G_262, eS']
    refine rn_e al_0 (rn_n (by rw [hR]; exact nI_ge (by omega) (by omega)) (rn_e n260 ?_))
    by_cases w : lv S h = 0
    · rw [if_pos w]
      refine rn_e (in_pos rfl rfl) (go c' hK (rv_cg h1 fun t ht => ?_))
      rw [if_pos w, if_pos w]
    · rw [if_neg w]
      have st : ∀ t, sn (fun r => ee S R D H s t h r) (r + 1) = sn (fun r => ee S R D H s t h r) r + ee S R D H s t h r := fun t => rfl
      by_cases u : cx S H D (qs S R H s) h r = 0
      · refine rn_e (in_pos u rfl) (go c' hK (rv_cg h1 fun t ht => ?_))
        rw [if_neg w, if_neg w, st, show ee S R D H s t h r = 0 by unfold ee; rw [if_pos u], Nat.add_zero]
      · have p25 : ald (cA c' 25 B2) 6 (nI h) = some (nI (6 ^ (5 - h))) := (ald_ok (by omega) (by decide)).trans (by rw [(hK 25 (by decide)).2.2.2.1, hP h (by omega)])
        have a24 : ald (cA c' 24 B2) 6 (nI h) = some (nI (qs S R H s h)) := (ald_ok (by omega) (by decide)).trans (by rw [h24' h hh w])
        have ix := tg_r (S := S) (R := R) (s := s) (h := h) (r := r) hR0 h6 (by omega) hh w
        have b1 := ph_lt (S := S) (H := H) hR0 r6 (tg S R H s h r)
        have b2 := ph_lt (S := S) (H := H) hR0 r6 s
        refine rn_e (v := sB c' 27 B2 (vp_updL (cB c' 27 B2) (ph S R H (tg S R H s h r)) (cB c' 27 B2 (ph S R H (tg S R H s h r)) + lN (f s)))) (in_neg u (ob_mk p25 (ob_mk a24 ?_))) (go _ (kp_tr hK (kp_B (by decide))) ?_)
        · rw [ix]
          refine ob_mk (ldl_ok b1 (by decide)) (ob_mk (v := lN (f s)) ((ldl_ok b2 (by decide)).trans (by rw [(hK 26 (by decide)).2.2.2.2.1, h26])) (ob_mk (stl_ok b1 (by decide)) rfl))
        · rw [cB_same]
          refine rv_cg (rv_add hR0 r6 h6 h1 (tg_lt hR0 (by omega))) (fun t ht => ?_)
          rw [if_neg w, if_neg w, st]
          unfold ee
          rw [if_neg u]
          by_cases y : tg S R H s h r = t
          · rw [if_pos y, if_pos y, Nat.mul_add, Nat.mul_one, Nat.add_assoc]
          · rw [if_neg y, if_neg y, Nat.add_zero, Nat.add_zero]
/-- heads -/
theorem gl_262c {Po : Cl → Prop} {c0 : Cl} {s : Nat} {f X : Nat → Nat} (hS : SR c1 c8 st S R D H Q M L E K) (hR0 : 0 < R) (eS : cA c0 20 B2 = S) (hP : Pw c0 B2) (hs : s < R ^ lc S H) (h24 : ∀ h, h < H → ¬ lv S h = 0 → cA c0 24 B2 h = nI (qs S R H s h)) (h26 : cB c0 26 B2 (ph S R H s) = lN (f s)) (ks : ∀ c', Kp [27] c0 c' → RV S R H (cB c' 27 B2) (fun t => X t + f s * cw S R D H s t) → Rn (G_262 B2 1 [nI (ph S R H s) + 1] [] [] c') Po) : ∀ (m h : Nat) (c' : Cl), h + m = H → Kp [27] c0 c' → RV S R H (cB c' 27 B2) (fun t => X t + f s * sn (fun h => if lv S h = 0 then 0 else sn (fun r => ee S R D H s t h r) R) h) → Rn (G_262 B2 2 [nI (ph S R H s), nI h] [] [] c') Po
  | 0, h, c', hh, hK, h1 => by
    have : h = H := by omega
    subst this
    obtain ⟨-, -, ⟨-, hH, h6⟩, -⟩ := hS.1.1
    have eS' : cA c' 20 B2 = S := by rw [(hK 20 (by decide)).2.2.2.1]; exact eS
    rw [G_262, eS']
    exact rn_e al_2 (rn_p (by rw [hH]; exact nI_le (Nat.le_refl _) (by omega)) (ks c' hK h1))
  | m + 1, h, c', hh, hK, h1 => by
    obtain ⟨-, -, ⟨-, hH, h6⟩, -⟩ := hS.1.1
    have eS' : cA c' 20 B2 = S := by rw [(hK 20 (by decide)).2.2.2.1]; exact eS
    rw [G_262, eS']
    refine rn_e al_2 (rn_n (by rw [hH]; exact nI_ge (by omega) (by omega)) ?_)
    refine gl_262d (c0 := c') (f := f) (X := fun t => X t + f s * sn (fun h => if lv S h = 0 then 0 else sn (fun r => ee S R D H s t h r) R) h) hS hR0 eS' (pw_k hK (by decide) hP) hs (show h < H by omega) (fun k a b => by rw [(hK 24 (by decide)).2.2.2.1]; exact h24 k a b) (by rw [(hK 26 (by decide)).2.2.2.2.1]; exact h26) (fun c'' k1 k2 => gl_262c hS hR0 eS hP hs h24 h26 ks m (h + 1) c'' (by omega) (kp_tr hK k1) (rv_cg k2 fun t ht => ?_)) R 0 c' (by omega) (kp_rf _ _) (rv_cg h1 fun t ht => ?_)
    · show X t + f s * (sn _ h + _) = _
      rw [Nat.mul_add, Nat.add_assoc]
    · have : (if lv S h = 0 then 0 else sn (fun r => ee S R D H s t h r) 0) = 0 := by split <;> rfl
      rw [this, Nat.mul_zero, Nat.add_zero]
/-- what comes from one number of the reference -/
def cn (S : Nat → Int32) (R D H : Nat) (f : Nat → Nat) (t c : Nat) : Nat := if psi S R H c < R ^ lc S H ∧ ph S R H (psi S R H c) = c then f (psi S R H c) * cw S R D H (psi S R H c) t else 0
theorem cn_sum (hR : 0 < R) (r6 : R ≤ 6) (h6 : H ≤ 6) {f : Nat → Nat} {t : Nat} (ht : t < R ^ lc S H) : f t + sn (cn S R D H f t) 46656 = nw S R D H f t := by
  rw [inj_sum (N := R ^ lc S H) (φ := ph S R H) (fun s t a b => ph_inj hR r6 h6 a b) (fun s _ => ph_lt hR r6 s) (fun c hc z => by
    unfold cn at z
    by_cases w : psi S R H c < R ^ lc S H ∧ ph S R H (psi S R H c) = c
    · exact ⟨_, w.1, w.2⟩
    · rw [if_neg w] at z; exact absurd rfl z)]
  have e1 : f t = sn (fun s => f s * (if s = t then 1 else 0)) (R ^ lc S H) := by
    rw [sn_cg (g := fun s => if s = t then f t else 0) (fun s _ => by
      by_cases w : s = t
      · subst w; rw [if_pos rfl, if_pos rfl, Nat.mul_one]
      · rw [if_neg w, if_neg w, Nat.mul_zero]), sn_pt _ ht]
  rw [e1, ← sn_add]
  unfold nw
  refine sn_cg fun s hs => ?_
  have e2 : cn S R D H f t (ph S R H s) = f s * cw S R D H s t := by unfold cn; rw [psi_ph hR r6 h6 hs]; exact if_pos ⟨hs, rfl⟩
  rw [e2, Nat.mul_add]
theorem gl_262b {Po : Cl → Prop} {c0 : Cl} {f : Nat → Nat} (hS : SR c1 c8 st S R D H Q M L E K) (hR0 : 0 < R) (eS : cA c0 20 B2 = S) (hP : Pw c0 B2) (h26 : RV S R H (cB c0 26 B2) f) (fb : ∀ s, s < R ^ lc S H → f s < 2 ^ 60) (ks : ∀ c', Kp [24, 27] c0 c' → RV S R H (cB c' 27 B2) (fun t => f t + sn (cn S R D H f t) 46656) → Rn (G_262 B2 4 [0] [] [] c') Po) : ∀ (m c : Nat) (c' : Cl), c + m = 46656 → Kp [24, 27] c0 c' → RV S R H (cB c' 27 B2) (fun t => f t + sn (cn S R D H f t) c) → Rn (G_262 B2 1 [nI c] [] [] c') Po
  | 0, c, c', hc, hK, h1 => by
    have : c = 46656 := by omega
    subst this
    rw [G_262]
    exact rn_p (by decide) (ks c' hK h1)
  | m + 1, c, c', hc, hK, h1 => by
    obtain ⟨⟨-, hR, r6⟩, -, ⟨-, hH, h6⟩, -⟩ := hS.1.1
    have st : ∀ t, sn (cn S R D H f t) (c + 1) = sn (cn S R D H f t) c + cn S R D H f t c := fun t => rfl
    have e26 : cB c' 26 B2 = cB c0 26 B2 := by rw [(hK 26 (by decide)).2.2.2.2.1]
    rw [G_262]
    refine rn_n (show ¬ (46656 : Int32) ≤ nI c from nI_ge (a := c) (b := 46656) (by omega) (by decide)) (rn_ll (by omega) (by decide) ?_)
    rw [e26]
    have skip : (∀ t, cn S R D H f t c = 0) → Rn (G_262 B2 1 [nI c + 1] [] [] c') Po := fun e => by
      rw [nI_1]
      exact gl_262b hS hR0 eS hP h26 fb ks m (c + 1) c' (by omega) hK (rv_cg h1 fun t ht => by rw [st, e t, Nat.add_zero])
    by_cases w : psi S R H c < R ^ lc S H ∧ ph S R H (psi S R H c) = c
    · have v := h26.1 _ w.1
      rw [w.2] at v
      rw [v]
      by_cases u : f (psi S R H c) = 0
      · refine rn_p (lgz.mpr (by rw [u]; rfl)) (skip fun t => ?_)
        unfold cn; rw [if_pos w, u, Nat.zero_mul]
      · refine rn_n (fun z => u ((lN_z (fb _ w.1)).mp (lgz.mp z))) ?_
        have lk := look_ok (S := S) (H := H) (c := c') (B2 := B2) (s := psi S R H c) hR0 r6 (pw_k hK (by decide) hP)
        rw [w.2] at lk
        refine rn_b lk (fun r ⟨r1, r2⟩ => ?_)
        have g := gl_262c (Po := Po) (c0 := r) (s := psi S R H c) (f := f) (X := fun t => f t + sn (cn S R D H f t) c) hS hR0 (by rw [(r1 20 (by decide)).2.2.2.1, (hK 20 (by decide)).2.2.2.1]; exact eS) (pw_k r1 (by decide) (pw_k hK (by decide) hP)) w.1 (fun k a b => r2 k a b (by omega)) (by rw [w.2, (r1 26 (by decide)).2.2.2.2.1, e26]; exact v) (fun c'' k1 k2 => by
          rw [w.2, nI_1]
          refine gl_262b hS hR0 eS hP h26 fb ks m (c + 1) c'' (by omega) (kp_tr hK (kp_tr (kp_wd r1 (by decide)) (kp_wd k1 (by decide)))) (rv_cg k2 fun t ht => ?_)
          rw [st, ← Nat.add_assoc, show cn S R D H f t c = f (psi S R H c) * cw S R D H (psi S R H c) t by unfold cn; rw [if_pos w]]) H 0 r (by omega) (kp_rf _ _) (rv_cg (by rw [(r1 27 (by decide)).2.2.2.2.1]; exact h1) fun t ht => by show _ + _ * 0 = _; rw [Nat.mul_zero, Nat.add_zero])
        rw [w.2] at g
        exact g
    · rw [h26.2 c (by omega) (fun s hs e => w (by rw [← e, psi_ph hR0 r6 h6 hs]; exact ⟨hs, rfl⟩))]
      refine rn_p (lgz.mpr rfl) (skip fun t => ?_)
      unfold cn; rw [if_neg w]
theorem gl_262a {Po : Cl → Prop} {c0 : Cl} (ks : ∀ c', Kp [27] c0 c' → (∀ c, c < 46656 → cB c' 27 B2 c = cB c0 26 B2 c) → Rn (G_262 B2 1 [0] [] [] c') Po) : ∀ (m c : Nat) (c' : Cl), c + m = 46656 → Kp [27] c0 c' → (∀ i, i < c → cB c' 27 B2 i = cB c0 26 B2 i) → Rn (G_262 B2 0 [nI c] [] [] c') Po
  | 0, c, c', hc, hK, h1 => by
    have : c = 46656 := by omega
    subst this
    rw [G_262]
    exact rn_p (by decide) (ks c' hK h1)
  | m + 1, c, c', hc, hK, h1 => by
    rw [G_262]
    refine rn_n (show ¬ (46656 : Int32) ≤ nI c from nI_ge (a := c) (b := 46656) (by omega) (by decide)) (rn_ll (by omega) (by decide) (rn_sl (by omega) (by decide) ?_))
    rw [nI_1]
    refine gl_262a ks m (c + 1) _ (by omega) (kp_tr hK (kp_B (by decide))) (fun i hi => ?_)
    rw [cB_same]
    by_cases w : i = c
    · subst w; rw [pk_uLs, (hK 26 (by decide)).2.2.2.2.1]
    · rw [pk_uLn w]; exact h1 i (by omega)
theorem gl_262e {c0 : Cl} : ∀ (m c : Nat) (c' : Cl), c + m = 46656 → Kp [26] c0 c' → (∀ i, i < c → cB c' 26 B2 i = cB c0 27 B2 i) → Rn (G_262 B2 4 [nI c] [] [] c') (fun r => Kp [26] c0 r ∧ ∀ i, i < 46656 → cB r 26 B2 i = cB c0 27 B2 i)
  | 0, c, c', hc, hK, h1 => by
    have : c = 46656 := by omega
    subst this
    rw [G_262]
    exact rn_p (by decide) (rn_r ⟨hK, h1⟩)
  | m + 1, c, c', hc, hK, h1 => by
    rw [G_262]
    refine rn_n (show ¬ (46656 : Int32) ≤ nI c from nI_ge (a := c) (b := 46656) (by omega) (by decide)) (rn_ll (by omega) (by decide) (rn_sl (by omega) (by decide) ?_))
    rw [nI_1]
    refine gl_262e m (c + 1) _ (by omega) (kp_tr hK (kp_B (by decide))) (fun i hi => ?_)
    rw [cB_same]
    by_cases w : i = c
    · subst w; rw [pk_uLs, (hK 27 (by decide)).2.2.2.2.1]
    · rw [pk_uLn w]; exact h1 i (by omega)
theorem f_262 {c0 : Cl} {f : Nat → Nat} (hS : SR c1 c8 st S R D H Q M L E K) (hR0 : 0 < R) (eS : cA c0 20 B2 = S) (hP : Pw c0 B2) (h26 : RV S R H (cB c0 26 B2) f) (fb : ∀ s, s < R ^ lc S H → f s < 2 ^ 60) : Rn (F_262 c0 B2) (fun r => Kp [24, 26, 27] c0 r ∧ RV S R H (cB r 26 B2) (nw S R D H f)) := by
  obtain ⟨⟨-, hR, r6⟩, -, ⟨-, hH, h6⟩, -⟩ := hS.1.1
  unfold F_262
  refine gl_262a (c0 := c0) (fun c' k1 h1 => ?_) 46656 0 c0 rfl (kp_rf _ _) (fun i hi => absurd hi (Nat.not_lt_zero _))
  refine gl_262b (c0 := c') (f := f) hS hR0 (by rw [(k1 20 (by decide)).2.2.2.1]; exact eS) (pw_k k1 (by decide) hP) (by rw [(k1 26 (by decide)).2.2.2.2.1]; exact h26) fb (fun c2 k2 h2 => ?_) 46656 0 c' rfl (kp_rf _ _) (rv_cg (rv_g hR0 r6 h26 h1) fun t ht => rfl)
  refine rn_m (gl_262e (c0 := c2) 46656 0 c2 rfl (kp_rf _ _) (fun i hi => absurd hi (Nat.not_lt_zero _))) (fun r ⟨a, b⟩ => ⟨kp_tr (kp_wd k1 (by decide)) (kp_tr (kp_wd k2 (by decide)) (kp_wd a (by decide))), rv_cg (rv_g hR0 r6 h2 b) fun t ht => (cn_sum hR0 r6 h6 ht).symm⟩)
end Fit3
/-! ===== what fits: the reference, whole ===== -/
section Fit4
variable {c1 c8 : Cl} {st B2 : Nat} {S : Nat → Int32} {R D H Q M L E : Nat} {K : Nat → Nat}
theorem ix3 (i : Nat) : (184 : Int32) + 3 * nI i = nI (184 + 3 * i) := by rw [show (3 : Int32) * nI i = nI (3 * i) from pk_mul 3 i]; exact nI_add 184 _
/-- those that are not as told go -/
theorem gl_263d {Po : Int64 × Cl → Prop} {c0 : Cl} {x2 : Int32} {k m0 : Nat} {f : Nat → Nat} (hS : SR c1 c8 st S R D H Q M L E K) (hR0 : 0 < R) (eS : cA c0 20 B2 = S) (hP : Pw c0 B2) (k12 : k ≤ 12) (hT : TdR S Q k) (fb : ∀ s, s < R ^ lc S H → f s < 2 ^ 60) (ks : ∀ c', Kp [24, 26] c0 c' → RV S R H (cB c' 26 B2) (ft S R H k m0 f) → Rn (G_263 B2 2 [nI k, x2, nI m0 + 1] [] [] c') Po) : ∀ (m c : Nat) (c' : Cl), c + m = 46656 → Kp [24, 26] c0 c' → RV S R H (cB c' 26 B2) (fun s => if ph S R H s < c then ft S R H k m0 f s else f s) → Rn (G_263 B2 3 [nI k, x2, nI m0, nI c] [] [] c') Po
  | 0, c, c', hc, hK, h1 => by
    have : c = 46656 := by omega
    subst this
    have r6 := hS.1.1.1.2.2
    rw [G_263]
    exact rn_p (by decide) (ks c' hK (rv_cg h1 fun s hs => by rw [if_pos (ph_lt hR0 r6 s)]))
  | m + 1, c, c', hc, hK, h1 => by
    obtain ⟨⟨-, hR, r6⟩, -, ⟨-, hH, h6⟩, -⟩ := hS.1.1
    rw [G_263]
    refine rn_n (show ¬ (46656 : Int32) ≤ nI c from nI_ge (a := c) (b := 46656) (by omega) (by decide)) (rn_ll (by omega) (by decide) ?_)
    have go : ∀ c'', Kp [24, 26] c0 c'' → RV S R H (cB c'' 26 B2) (fun s => if ph S R H s < c + 1 then ft S R H k m0 f s else f s) → Rn (G_263 B2 3 [nI k, x2, nI m0, nI c + 1] [] [] c'') Po := fun c'' k1 k2 => by
      rw [nI_1]; exact gl_263d hS hR0 eS hP k12 hT fb ks m (c + 1) c'' (by omega) k1 k2
    have skip : (∀ s, s < R ^ lc S H → ph S R H s = c → ft S R H k m0 f s = f s) → ∀ c'', cB c'' 26 B2 = cB c' 26 B2 → RV S R H (cB c'' 26 B2) (fun s => if ph S R H s < c + 1 then ft S R H k m0 f s else f s) := fun e c'' ec => by
      rw [ec]
      refine rv_cg h1 fun s hs => ?_
      by_cases w : ph S R H s = c
      · rw [if_pos (by omega), if_neg (by omega), e s hs w]
      · by_cases u : ph S R H s < c
        · rw [if_pos (by omega), if_pos u]
        · rw [if_neg (by omega), if_neg u]
    by_cases w : psi S R H c < R ^ lc S H ∧ ph S R H (psi S R H c) = c
    · have v : cB c' 26 B2 c = lN (f (psi S R H c)) := by
        have z := h1.1 _ w.1
        rw [w.2] at z
        exact z.trans (congrArg lN (if_neg (by rw [w.2]; exact Nat.lt_irrefl _)))
      rw [v]
      have only : ∀ s, s < R ^ lc S H → ph S R H s = c → s = psi S R H c := fun s hs e => ph_inj hR0 r6 h6 hs w.1 (by rw [e, w.2])
      by_cases u : f (psi S R H c) = 0
      · refine rn_e (in_pos (lgz.mpr (by rw [u]; rfl)) rfl) (go c' hK (skip (fun s hs e => ?_) c' rfl))
        rw [only s hs e]; unfold ft; rw [u]; split <;> rfl
      · have lk := look_ok (S := S) (H := H) (c := c') (B2 := B2) (s := psi S R H c) hR0 r6 (pw_k hK (by decide) hP)
        rw [w.2] at lk
        obtain ⟨r, e1, r1, r2⟩ := lk
        have eS' : cA r 20 B2 = S := by rw [(r1 20 (by decide)).2.2.2.1, (hK 20 (by decide)).2.2.2.1]; exact eS
        have g := f_261 (c := r) (B2 := B2) (m0 := m0) (k := k) (q := qs S R H (psi S R H c)) hS eS' (fun h a b => r2 h a b (by omega)) k12 hT
        have k3 : Kp [24, 26] c0 r := kp_tr hK (kp_wd r1 (by decide))
        have b26 : cB r 26 B2 = cB c' 26 B2 := by rw [(r1 26 (by decide)).2.2.2.2.1]
        by_cases y : atb S H m0 (qs S R H (psi S R H c)) k = true
        · rw [if_pos y] at g
          refine rn_e (in_neg (fun z => u ((lN_z (fb _ w.1)).mp (lgz.mp z))) (ob_mk e1 (ob_mk g (in_neg (by decide) rfl)))) (go r k3 (skip (fun s hs e => ?_) r b26))
          rw [only s hs e]; unfold ft; rw [if_pos y]
        · rw [if_neg y] at g
          refine rn_e (in_neg (fun z => u ((lN_z (fb _ w.1)).mp (lgz.mp z))) (ob_mk e1 (ob_mk g (in_pos rfl (ob_mk (stl_ok (by omega) (by decide)) rfl))))) (go _ (kp_tr k3 (kp_B (by decide))) ?_)
          rw [cB_same, b26]
          have z := rv_up hR0 r6 h6 h1 (s := psi S R H c) (v := 0) w.1
          rw [w.2] at z
          refine rv_cg z fun s hs => ?_
          by_cases q : s = psi S R H c
          · rw [if_pos q, q, w.2, if_pos (Nat.lt_succ_self _)]; unfold ft; rw [if_neg y]
          · rw [if_neg q]
            have : ph S R H s ≠ c := fun e => q (only s hs e)
            by_cases u : ph S R H s < c
            · rw [if_pos (by omega), if_pos u]
            · rw [if_neg (by omega), if_neg u]
    · have no : ∀ s, s < R ^ lc S H → ph S R H s ≠ c := fun s hs e => w (by rw [← e, psi_ph hR0 r6 h6 hs]; exact ⟨hs, rfl⟩)
      rw [h1.2 c (by omega) no]
      exact rn_e (in_pos (lgz.mpr rfl) rfl) (go c' hK (skip (fun s hs e => absurd e (no s hs)) c' rfl))
theorem gl_263e {g : Nat → Int64} {c : Cl} (hf : ∀ t, t < 46656 → cB c 26 B2 t = g t) : ∀ (m s : Nat), s + m = 46656 → G_263 B2 4 [nI s] [sl g s] [] c = some (sl g 46656, c)
  | 0, s, hs => by
    have : s = 46656 := by omega
    subst this
    rw [G_263]
    exact in_pos (by decide) rfl
  | m + 1, s, hs => by
    have ih := gl_263e hf m (s + 1) (by omega)
    rw [G_263]
    refine in_neg (show ¬ (46656 : Int32) ≤ nI s from nI_ge (a := s) (b := 46656) (by omega) (by decide)) (ob_mk (ldl_ok (by omega) (by decide)) ?_)
    rw [hf s (by omega), nI_1]
    exact ih
/-- minutes -/
theorem gl_263c {c0 : Cl} {k n : Nat} (hS : SR c1 c8 st S R D H Q M L E K) (hR0 : 0 < R) (eS : cA c0 20 B2 = S) (hP : Pw c0 B2) (k12 : k ≤ 12) (hT : TdR S Q k) (n8 : n ≤ 8) : ∀ (m i : Nat) (c' : Cl), i + m = n → Kp [24, 26, 27] c0 c' → RV S R H (cB c' 26 B2) (wy S R D H k i) → Rn (G_263 B2 2 [nI k, nI n, nI (i + 1)] [] [] c') (fun r => r.1 = lN (sn (wy S R D H k n) (R ^ lc S H)) ∧ RV S R H (cB r.2 26 B2) (wy S R D H k n) ∧ Kp [24, 26, 27] c0 r.2)
  | 0, i, c', hi, hK, h1 => by
    have : i = n := by omega
    subst this
    obtain ⟨⟨-, hR, r6⟩, -, ⟨-, hH, h6⟩, -⟩ := hS.1.1
    rw [G_263]
    exact rn_p (nI_lt (by omega) (by omega)) (rn_q (gl_263e (g := cB c' 26 B2) (fun _ _ => rfl) 46656 0 rfl) ⟨rv_sum hR0 r6 h6 h1, h1, hK⟩)
  | m + 1, i, c', hi, hK, h1 => by
    obtain ⟨⟨-, hR, r6⟩, -, ⟨-, hH, h6⟩, -⟩ := hS.1.1
    have b := wy_b (S := S) (D := D) (k := k) (m := i) hR0 r6 h6 (by omega) (q0_ok hS)
    have b1 := nw_sum (S := S) (D := D) (f := wy S R D H k i) hR0 r6 h6
    have b2 := wy_sum (S := S) (D := D) (k := k) hR0 r6 h6 (q0_ok hS) i
    have b3 : 37 ^ i ≤ 37 ^ 8 := Nat.pow_le_pow_right (by decide) (by omega)
    have b4 : (37 : Nat) * 37 ^ 8 < 2 ^ 60 := by decide
    have b5 : (37 : Nat) * sn (wy S R D H k i) (R ^ lc S H) ≤ 37 * 37 ^ 8 := Nat.mul_le_mul_left _ (Nat.le_trans b2 b3)
    rw [G_263]
    refine rn_n (nI_nlt (by omega) (by omega)) (rn_b (P := fun t => Kp [24, 26, 27] c0 t ∧ RV S R H (cB t 26 B2) (nw S R D H (wy S R D H k i))) (rn_n (nI_nle (by omega) (by omega)) (rn_b (f_262 (c0 := c') hS hR0 (by rw [(hK 20 (by decide)).2.2.2.1]; exact eS) (pw_k hK (by decide) hP) h1 (fun s hs => Nat.lt_of_le_of_lt (sn_1 (f := wy S R D H k i) hs) b)) (fun t ⟨t1, t2⟩ => rn_r ⟨kp_tr hK t1, t2⟩))) (fun t ⟨t1, t2⟩ => ?_))
    refine gl_263d (c0 := t) (m0 := i + 1) (f := nw S R D H (wy S R D H k i)) hS hR0 (by rw [(t1 20 (by decide)).2.2.2.1]; exact eS) (pw_k t1 (by decide) hP) k12 hT (fun s hs => by have := sn_1 (f := nw S R D H (wy S R D H k i)) hs; omega) (fun c'' k1 k2 => ?_) 46656 0 t rfl (kp_rf _ _) (rv_cg t2 fun s hs => if_neg (Nat.not_lt_zero _))
    rw [nI_1]
    exact gl_263c hS hR0 eS hP k12 hT n8 m (i + 1) c'' (by omega) (kp_tr t1 (kp_wd k1 (by decide))) k2
theorem gl_263b {Po : Int64 × Cl → Prop} {c0 : Cl} {x1 x2 : Int32} (ks : ∀ c', Kp [26] c0 c' → (∀ c, c < 46656 → cB c' 26 B2 c = 0) → Rn (F_256 c' B2 >>= fun r8 => stl c' 26 B2 46656 r8 1 >>= fun c12_9 => G_263 B2 2 [x1, x2, 0] [] [] c12_9) Po) : ∀ (m c : Nat) (c' : Cl), c + m = 46656 → Kp [26] c0 c' → (∀ i, i < c → cB c' 26 B2 i = 0) → Rn (G_263 B2 1 [x1, x2, nI c] [] [] c') Po
  | 0, c, c', hc, hK, h1 => by
    have : c = 46656 := by omega
    subst this
    rw [G_263]
    exact rn_p (by decide) (ks c' hK h1)
  | m + 1, c, c', hc, hK, h1 => by
    rw [G_263]
    refine rn_n (show ¬ (46656 : Int32) ≤ nI c from nI_ge (a := c) (b := 46656) (by omega) (by decide)) (rn_sl (by omega) (by decide) ?_)
    rw [nI_1]
    refine gl_263b ks m (c + 1) _ (by omega) (kp_tr hK (kp_B (by decide))) (fun i hi => ?_)
    rw [cB_same]
    by_cases w : i = c
    · subst w; rw [pk_uLs]
    · rw [pk_uLn w]; exact h1 i (by omega)
theorem gl_263a {c : Cl} {k : Nat} (eS : cA c 20 B2 = S) (k12 : k ≤ 12) (hT : TdR S Q k) : ∀ (m i : Nat), i + m = k → G_263 B2 0 [nI k, nI (mx S i), nI i] [] [] c = G_263 B2 1 [nI k, nI (mx S k), 0] [] [] c
  | 0, i, hi => by
    have : i = k := by omega
    subst this
    conv => lhs; rw [G_263]
    rw [if_pos (nI_le (Nat.le_refl _) (by omega))]
  | m + 1, i, hi => by
    have ih := gl_263a eS k12 hT m (i + 1) (by omega)
    obtain ⟨⟨v, v8, ev⟩, -⟩ := hT i (by omega)
    have m8 := mx_8 (S := S) (Q := Q) (k := i) (fun j hj => hT j (by omega))
    rw [← ih]
    conv => lhs; rw [G_263]
    rw [eS, ix3, if_neg (nI_ge (by omega) (by omega)), nI_1]
    refine ob_e (ald_ok (by omega) (by decide)) (ob_e (v := nI (mx S (i + 1))) ?_ rfl)
    show _ = some (nI (if mx S i < (S (184 + 3 * i)).toNatClampNeg then (S (184 + 3 * i)).toNatClampNeg else mx S i))
    rw [ev, nI_clamp (by omega)]
    by_cases w : mx S i < v
    · rw [if_pos w]
      exact in_neg (nI_ge w (by omega)) (ob_mk ((ald_ok (by omega) (by decide)).trans (by rw [ev])) rfl)
    · rw [if_neg w]
      exact in_pos (nI_le (by omega) (by omega)) rfl
theorem f_263 {c0 : Cl} {k : Nat} (hS : SR c1 c8 st S R D H Q M L E K) (hR0 : 0 < R) (eS : cA c0 20 B2 = S) (hP : Pw c0 B2) (k12 : k ≤ 12) (hT : TdR S Q k) : Rn (F_263 c0 B2 (nI k)) (fun r => r.1 = lN (sn (wy S R D H k (mx S k)) (R ^ lc S H)) ∧ RV S R H (cB r.2 26 B2) (wy S R D H k (mx S k)) ∧ Kp [24, 26, 27] c0 r.2) := by
  obtain ⟨⟨-, hR, r6⟩, -, ⟨-, hH, h6⟩, -⟩ := hS.1.1
  have m8 := mx_8 (S := S) hT
  unfold F_263
  have a := gl_263a (B2 := B2) (c := c0) eS k12 hT k 0 (by omega)
  have a' : G_263 B2 0 [nI k, 0, 0] [] [] c0 = G_263 B2 1 [nI k, nI (mx S k), 0] [] [] c0 := a
  rw [a']
  refine gl_263b (c0 := c0) (fun c' k1 h1 => ?_) 46656 0 c0 rfl (kp_rf _ _) (fun i hi => absurd hi (Nat.not_lt_zero _))
  have eS' : cA c' 20 B2 = S := by rw [(k1 20 (by decide)).2.2.2.1]; exact eS
  have hS' : SR c1 c8 st (cA c' 20 B2) R D H Q M L E K := by rw [eS']; exact hS
  have hk := kc_lt (S := S) (R := R) (q0_ok hS)
  have e0 : cd 6 (qx (cA c' 20 B2) H (q0 (cA c' 20 B2))) 6 = ph S R H (kc S R H (q0 S)) := by rw [eS', ph_kc hR0 (q0_ok hS)]; rfl
  refine rn_e (f_256 hS' (pw_k k1 (by decide) hP)) ?_
  rw [e0]
  have b1 := ph_lt (S := S) (H := H) hR0 r6 (kc S R H (q0 S))
  refine rn_sl b1 (by decide) ?_
  obtain ⟨c2, hc2⟩ : ∃ c2, c2 = sB c' 26 B2 (vp_updL (cB c' 26 B2) (ph S R H (kc S R H (q0 S))) 1) := ⟨_, rfl⟩
  rw [← hc2]
  have k2 : Kp [26] c0 c2 := by rw [hc2]; exact kp_tr k1 (kp_B (by decide))
  have v2 : RV S R H (cB c2 26 B2) (fun s => if s = kc S R H (q0 S) then 1 else 0) := by
    rw [hc2, cB_same]
    refine rv_up (v := 1) (f := fun _ => 0) hR0 r6 h6 ⟨fun s hs => h1 _ (ph_lt hR0 r6 s), fun c hc _ => h1 c hc⟩ hk
  rw [G_263]
  refine rn_n (show ¬ nI (mx S k) < 0 from nI_pos (by omega)) (rn_e (in_pos (by decide) rfl) ?_)
  refine gl_263d (c0 := c2) (m0 := 0) (f := fun s => if s = kc S R H (q0 S) then 1 else 0) hS hR0 (by rw [(k2 20 (by decide)).2.2.2.1]; exact eS) (pw_k k2 (by decide) hP) k12 hT (fun s hs => by split <;> decide) (fun c'' k3 h3 => ?_) 46656 0 c2 rfl (kp_rf _ _) (rv_cg v2 fun s hs => if_neg (Nat.not_lt_zero _))
  have g := gl_263c (c0 := c0) (k := k) (n := mx S k) hS hR0 eS hP k12 hT m8 (mx S k) 0 c'' (by omega) (kp_tr (kp_wd k2 (by decide)) (kp_wd k3 (by decide))) h3
  exact g
end Fit4
