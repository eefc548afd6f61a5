/-! ===== gather: the reference ===== -/
/-- the reference's rows: how far, by which first going, one after the other -/
def RBq (c12 : Cl) (B2 : Nat) (S : Nat → Int32) (R H : Nat) (σ : Bq) : Prop := (∀ s, s < R ^ lc S H → cA c12 40 B2 (ph S R H s) = nI (bfr σ s) - 1) ∧ (∀ c, c < 46656 → (∀ s, s < R ^ lc S H → ph S R H s ≠ c) → cA c12 40 B2 c = -1) ∧ (∀ s, s < R ^ lc S H → 2 ≤ bfr σ s → cA c12 41 B2 (ph S R H s) = nI (bb σ s)) ∧ (∀ j, j < bn σ → cA c12 42 B2 j = nI (ph S R H (bu σ j)))
section Spr
variable {c1 c8 : Cl} {st B2 : Nat} {S : Nat → Int32} {R D H Q M L E : Nat} {K : Nat → Nat}
theorem nI_m1 {n : Nat} (h : 0 < n) : nI n - 1 = nI (n - 1) := pk_sub (a := n) (b := 1) h
theorem fr_b {σ : Bq} {Kx : Nat} (hi : BI S R H σ Kx) {s : Nat} (hs : s < R ^ lc S H) : bfr σ s ≤ R ^ lc S H := by
  by_cases w : bfr σ s = 0
  · omega
  · obtain ⟨j, hj, ej⟩ := hi.1.2.2 s hs w
    have := (hi.2.2.1 j hj).1
    have := uq_n hi.1
    rw [ej] at *
    omega
/-- rooms of a head that lives -/
theorem gl_284d {Po : Cl → Prop} {c0 : Cl} {σ : Bq} {k h : Nat} (hS : SR c1 c8 st S R D H Q M L E K) (hR0 : 0 < R) (eS : cA c0 20 B2 = S) (hP : Pw c0 B2) (hi : BI S R H σ (kev σ k h 0)) (hk : k < bn σ) (hh : h < H) (hl : ¬ lv S h = 0) (h24 : ∀ h, h < H → ¬ lv S h = 0 → cA c0 24 B2 h = nI (qs S R H (bu σ k) h)) (ks : ∀ c', Kp [40, 41, 42] c0 c' → RBq c' B2 S R H (brow S R D H k h σ R) → Rn (G_284 B2 2 [nI (bn (brow S R D H k h σ R)), nI k, nI (ph S R H (bu σ k)), nI (h + 1)] [] [] c') Po) : ∀ (m r : Nat) (c' : Cl), r + m = R → Kp [40, 41, 42] c0 c' → RBq c' B2 S R H (brow S R D H k h σ r) → Rn (G_284 B2 3 [nI (bn (brow S R D H k h σ r)), nI k, nI (ph S R H (bu σ k)), nI h, nI r] [] [] c') Po
  | 0, r, c', hr, hK, h1 => by
    have : r = R := by omega
    subst this
    obtain ⟨⟨-, hR, r6⟩, -⟩ := hS.1.1
    have eS' : cA c' 20 B2 = S := by rw [(hK 20 (by decide)).2.2.2.1]; exact eS
    rw [G_284, eS']
    refine rn_e al_0 (rn_p (by rw [hR]; exact nI_le (Nat.le_refl _) (by omega)) ?_)
    rw [nI_1]
    exact ks c' hK h1
  | m + 1, r, c', hr, hK, h1 => by
    obtain ⟨⟨-, hR, r6⟩, ⟨-, hD, d10⟩, ⟨-, hH, h6⟩, -⟩ := hS.1.1
    have sz := pow_sz (S := S) r6 h6
    have eS' : cA c' 20 B2 = S := by rw [(hK 20 (by decide)).2.2.2.1]; exact eS
    have h24' : ∀ h, h < H → ¬ lv S h = 0 → cA c' 24 B2 h = nI (qs S R H (bu σ k) h) := fun k a b => by rw [(hK 24 (by decide)).2.2.2.1]; exact h24 k a b
    have n260 := f_260 (q := qs S R H (bu σ k)) (c := c') (B2 := B2) (h := h) (r := r) (H := H) (D := D) (by rw [eS']; exact hH) h6 (by rw [eS']; exact hD) d10 (by rw [eS']; exact h24') hh (by omega)
    rw [eS', if_neg hl] at n260
    have bo := brow_ok (D := D) hR0 r6 h6 hi hk hh hl r (by omega)
    obtain ⟨τ, eτ⟩ : ∃ τ, τ = brow S R D H k h σ r := ⟨_, rfl⟩
    rw [← eτ] at bo h1 ⊢
    have sk : bu τ k = bu σ k := bo.2.2.1 k hk
    have kτ : k < bn τ := Nat.lt_of_lt_of_le hk bo.2.1
    have eg := bx_g (h := h) (r := r) bo.2 hk
    have nx : brow S R D H k h σ (r + 1) = st1 S R D H k h r τ := by rw [eτ]; rfl
    have go : ∀ c'', Kp [40, 41, 42] c0 c'' → RBq c'' B2 S R H (st1 S R D H k h r τ) → Rn (G_284 B2 3 [nI (bn (st1 S R D H k h r τ)), nI k, nI (ph S R H (bu σ k)), nI h, nI r + 1] [] [] c'') Po := fun c'' k1 k2 => by
      rw [nI_1]
      have g := gl_284d hS hR0 eS hP hi hk hh hl h24 ks m (r + 1) c'' (by omega) k1 (by rw [nx]; exact k2)
      rw [nx] at g
      exact g
    obtain ⟨s, es⟩ : ∃ s, s = bu σ k := ⟨_, rfl⟩
    rw [← es] at sk go n260 h24' ⊢
    have su := bo.1.1.1 k kτ
    rw [sk] at su
    have fs1 := (bo.1.2.2.1 k kτ).1
    rw [sk] at fs1
    have nN := uq_n bo.1.1
    have fp : 0 < bfr τ s := Nat.pos_of_ne_zero su.2
    rw [G_284, eS']
    refine rn_e al_0 (rn_n (by rw [hR]; exact nI_ge (by omega) (by omega)) (rn_e n260 ?_))
    by_cases w : cx S H D (qs S R H s) h r = 0
    · have e1 : st1 S R D H k h r τ = τ := by unfold st1; rw [sk, if_pos w]
      rw [e1] at go
      exact rn_p w (go c' hK h1)
    · refine rn_n w ?_
      have p25 : ald (cA c' 25 B2) 6 (nI h) = some (nI (6 ^ (5 - h))) := (ald_ok (by omega) (by decide)).trans (by rw [(hK 25 (by decide)).2.2.2.1, hP h (by omega)])
      have a24 : ald (cA c' 24 B2) 6 (nI h) = some (nI (qs S R H s h)) := (ald_ok (by omega) (by decide)).trans (by rw [h24' h hh hl])
      have ix := tg_r (S := S) (R := R) (s := s) (h := h) (r := r) hR0 h6 (by omega) hh hl
      obtain ⟨t, et⟩ : ∃ t, t = tg S R H s h r := ⟨_, rfl⟩
      rw [← et] at ix
      have b1 := ph_lt (S := S) (H := H) hR0 r6 t
      have b2 := ph_lt (S := S) (H := H) hR0 r6 s
      have tl : t < R ^ lc S H := by rw [et]; exact tg_lt hR0 (by omega)
      have v18 : ald (cA c' 40 B2) 46656 (nI (ph S R H s)) = some (nI (bfr τ s - 1)) := (ald_ok b2 (by decide)).trans (by rw [h1.1 s su.1, nI_m1 fp])
      have v21 : ald (cA c' 40 B2) 46656 (nI (ph S R H t)) = some (nI (bfr τ t) - 1) := (ald_ok b1 (by decide)).trans (by rw [h1.1 t tl])
      have ft := fr_b bo.1 tl
      have t19 : ((if nI (bfr τ s - 1) = 0 then some ((6 * nI h) + nI r) else ald (cA c' 41 B2) 46656 (nI (ph S R H s)) >>= fun v36 => some v36) : Option Int32) = some (nI (bg1 τ k h r)) := by
        unfold bg1
        rw [sk]
        by_cases y : bfr τ s = 1
        · rw [if_pos y, y]
          refine in_pos rfl ?_
          rw [show (6 : Int32) * nI h = nI (6 * h) from pk_mul 6 h, nI_add]
        · rw [if_neg y]
          exact in_neg (nI_ne0 (by omega) (by omega)) (ob_mk ((ald_ok b2 (by decide)).trans (by rw [h1.2.2.1 s su.1 (by omega)])) rfl)
      refine rn_e p25 (rn_e a24 (rn_e v18 (rn_e t19 ?_)))
      rw [ix]
      refine rn_e v21 ?_
      by_cases y : bfr τ t = 0
      · rw [y]
        have e1 : st1 S R D H k h r τ = (bn τ + 1, un (bu τ) (bn τ) t, un (bfr τ) t (bfr τ s + 1), un (bb τ) t (bg1 τ k h r)) := by unfold st1; rw [sk, if_neg w, ← et, if_pos y]
        have nlt := uq_lt bo.1.1 tl y
        refine rn_e (in_neg (by decide) (ob_mk v18 (ob_mk (ast_ok b1 (by decide)) (ob_mk (ast_ok b1 (by decide)) (ob_mk (ast_ok (show bn τ < 46656 by omega) (by decide)) rfl))))) ?_
        dsimp only
        have e2 : nI (bn τ) + 1 = nI (bn (st1 S R D H k h r τ)) := by rw [e1]; exact nI_1 _
        rw [e2]
        refine go _ (kp_tr hK (kp_tr (kp_A (by decide)) (kp_tr (kp_A (by decide)) (kp_A (by decide))))) ?_
        rw [e1]
        have ne : ∀ s', s' < R ^ lc S H → s' ≠ t → ph S R H s' ≠ ph S R H t := fun s' hs' z e => z (ph_inj hR0 r6 h6 hs' tl e)
        refine ⟨fun s' hs' => ?_, fun c hc z => ?_, fun s' hs' z => ?_, fun j hj => ?_⟩
        · show _ = nI (un (bfr τ) t (bfr τ s + 1) s') - 1
          simp only [cI_sI, cI_sJ, cI_sR, cI_sA, cI_sB, cI_sQ, cR_sI, cR_sJ, cR_sR, cR_sA, cR_sB, cR_sQ, cA_sI, cA_sJ, cA_sR, cA_sA, cA_sB, cA_sQ, Nat.reduceEqDiff, false_and, and_false, and_true, true_and, if_false, if_true, and_self, ↓reduceIte]
          by_cases z : s' = t
          · rw [z, pk_us, un_s, nI_1, nI_m1 (by omega)]
            congr 1; omega
          · rw [pk_un (ne s' hs' z), un_n z]; exact h1.1 s' hs'
        · simp only [cI_sI, cI_sJ, cI_sR, cI_sA, cI_sB, cI_sQ, cR_sI, cR_sJ, cR_sR, cR_sA, cR_sB, cR_sQ, cA_sI, cA_sJ, cA_sR, cA_sA, cA_sB, cA_sQ, Nat.reduceEqDiff, false_and, and_false, and_true, true_and, if_false, if_true, and_self, ↓reduceIte]
          rw [pk_un (fun e => z t tl e.symm)]; exact h1.2.1 c hc z
        · have z' : 2 ≤ un (bfr τ) t (bfr τ s + 1) s' := z
          show _ = nI (un (bb τ) t (bg1 τ k h r) s')
          simp only [cI_sI, cI_sJ, cI_sR, cI_sA, cI_sB, cI_sQ, cR_sI, cR_sJ, cR_sR, cR_sA, cR_sB, cR_sQ, cA_sI, cA_sJ, cA_sR, cA_sA, cA_sB, cA_sQ, Nat.reduceEqDiff, false_and, and_false, and_true, true_and, if_false, if_true, and_self, ↓reduceIte]
          by_cases y' : s' = t
          · rw [y', pk_us, un_s]
          · rw [un_n y'] at z'
            rw [pk_un (ne s' hs' y'), un_n y']; exact h1.2.2.1 s' hs' z'
        · have hj' : j < bn τ + 1 := hj
          show _ = nI (ph S R H (un (bu τ) (bn τ) t j))
          simp only [cI_sI, cI_sJ, cI_sR, cI_sA, cI_sB, cI_sQ, cR_sI, cR_sJ, cR_sR, cR_sA, cR_sB, cR_sQ, cA_sI, cA_sJ, cA_sR, cA_sA, cA_sB, cA_sQ, Nat.reduceEqDiff, false_and, and_false, and_true, true_and, if_false, if_true, and_self, ↓reduceIte]
          by_cases z : j = bn τ
          · rw [z, pk_us, un_s]
          · rw [pk_un z, un_n z]; exact h1.2.2.2 j (by omega)
      · have e1 : st1 S R D H k h r τ = τ := by unfold st1; rw [sk, if_neg w, ← et, if_neg y]
        rw [e1] at go
        have tp : 0 < bfr τ t := Nat.pos_of_ne_zero y
        have t22 : ∀ (f g : Option (Int32 × Cl)), f = some (nI (bn τ), c') → Rn ((if 0 ≤ nI (bfr τ t) - 1 then f else g) >>= fun (t22 : Int32 × Cl) => G_284 B2 3 [t22.1, nI k, nI (ph S R H s), nI h, nI r + 1] [] [] t22.2) Po := fun f g e => by
          rw [nI_m1 tp]
          exact rn_e (in_pos (nI_pos' (by omega)) e) (go c' hK h1)
        refine t22 _ _ (ob_mk v21 (ob_mk v18 ?_))
        rw [nI_m1 tp, nI_1]
        by_cases z : bfr τ t = bfr τ s + 1
        · refine in_pos (by rw [z]; congr 1; omega) (ob_mk (v := nI (bb τ t)) ((ald_ok b1 (by decide)).trans (by rw [h1.2.2.1 t tl (by omega)])) ?_)
          obtain ⟨j, hj, ej⟩ := bo.1.1.2.2 t tl y
          have kb := bo.1.2.2.2.2.2 j hj
          have b64 := (bo.1.2.2.1 j hj).2
          rw [ej] at kb b64
          have g64 : bg1 τ k h r < 64 := by
            unfold bg1
            rw [sk]
            split
            · omega
            · have := (bo.1.2.2.1 k kτ).2
              rw [sk] at this; exact this
          have le : bb τ t ≤ bg1 τ k h r := by
            have e3 : kev σ k h r = (bfr τ s + 1) * 64 + bg1 τ k h r := by rw [← eg.2]; unfold kev; rw [sk]
            unfold bk at kb
            rw [e3, z] at kb
            omega
          exact in_pos (nI_le le (by omega)) rfl
        · refine in_neg (fun e => z ?_) rfl
          have := (nI_eq (by omega) (by omega)).mp e
          omega
/-- rooms of one that is dead -/
theorem gl_284x {Po : Cl → Prop} {n k h s : Nat} {c' : Cl} (hS : SR c1 c8 st S R D H Q M L E K) (eS : cA c' 20 B2 = S) (hh : h < H) (hl : lv S h = 0) (ks : Rn (G_284 B2 2 [nI n, nI k, nI s, nI (h + 1)] [] [] c') Po) : ∀ (m r : Nat), r + m = R → Rn (G_284 B2 3 [nI n, nI k, nI s, nI h, nI r] [] [] c') Po
  | 0, r, hr => by
    have : r = R := by omega
    subst this
    obtain ⟨⟨-, hR, r6⟩, -⟩ := hS.1.1
    rw [G_284, eS]
    refine rn_e al_0 (rn_p (by rw [hR]; exact nI_le (Nat.le_refl _) (by omega)) ?_)
    rw [nI_1]
    exact ks
  | m + 1, r, hr => by
    obtain ⟨⟨-, hR, r6⟩, -, ⟨-, -, h6⟩, -⟩ := hS.1.1
    have n260 : F_260 c' B2 (nI h) (nI r) = some 0 := by
      unfold F_260
      refine ob_mk ((f_224 (by omega)).trans (by rw [eS])) ?_
      rw [if_pos hl]; rfl
    rw [G_284, eS]
    refine rn_e al_0 (rn_n (by rw [hR]; exact nI_ge (by omega) (by omega)) (rn_e n260 (rn_p rfl ?_)))
    rw [nI_1]
    exact gl_284x hS eS hh hl ks m (r + 1) (by omega)
/-- heads -/
theorem gl_284c {Po : Cl → Prop} {c0 : Cl} {σ : Bq} {k : Nat} (hS : SR c1 c8 st S R D H Q M L E K) (hR0 : 0 < R) (eS : cA c0 20 B2 = S) (hP : Pw c0 B2) (hi : BI S R H σ (kev σ k 0 0)) (hk : k < bn σ) (h24 : ∀ h, h < H → ¬ lv S h = 0 → cA c0 24 B2 h = nI (qs S R H (bu σ k) h)) (ks : ∀ c', Kp [40, 41, 42] c0 c' → RBq c' B2 S R H (bex S R D H k σ H) → Rn (G_284 B2 1 [nI (bn (bex S R D H k σ H)), nI (k + 1)] [] [] c') Po) : ∀ (m h : Nat) (c' : Cl), h + m = H → Kp [40, 41, 42] c0 c' → RBq c' B2 S R H (bex S R D H k σ h) → Rn (G_284 B2 2 [nI (bn (bex S R D H k σ h)), nI k, nI (ph S R H (bu σ k)), nI h] [] [] c') Po
  | 0, h, c', hh, hK, h1 => by
    have : h = H := by omega
    subst this
    obtain ⟨-, -, ⟨-, hH, h6⟩, -⟩ := hS.1.1
    have eS' : cA c' 20 B2 = S := by rw [(hK 20 (by decide)).2.2.2.1]; exact eS
    rw [G_284, eS']
    refine rn_e al_2 (rn_p (by rw [hH]; exact nI_le (Nat.le_refl _) (by omega)) ?_)
    rw [nI_1]
    exact ks c' hK h1
  | m + 1, h, c', hh, hK, h1 => by
    obtain ⟨⟨-, hR, r6⟩, -, ⟨-, hH, h6⟩, -⟩ := hS.1.1
    have eS' : cA c' 20 B2 = S := by rw [(hK 20 (by decide)).2.2.2.1]; exact eS
    have nx : bex S R D H k σ (h + 1) = if lv S h = 0 then bex S R D H k σ h else brow S R D H k h (bex S R D H k σ h) R := rfl
    have bo := bex_ok (D := D) hR0 r6 h6 hi hk h (by omega)
    rw [G_284, eS']
    refine rn_e al_2 (rn_n (by rw [hH]; exact nI_ge (by omega) (by omega)) ?_)
    by_cases w : lv S h = 0
    · rw [if_pos w] at nx
      have g := gl_284c hS hR0 eS hP hi hk h24 ks m (h + 1) c' (by omega) hK (by rw [nx]; exact h1)
      rw [nx] at g
      exact gl_284x hS eS' (by omega) w g R 0 (by omega)
    · rw [if_neg w] at nx
      have sk : bu (bex S R D H k σ h) k = bu σ k := bo.2.2.1 k hk
      have g := gl_284d (D := D) (Po := Po) (c0 := c') (σ := bex S R D H k σ h) (k := k) (h := h) hS hR0 eS' (pw_k hK (by decide) hP) (by rw [(bx_g (h := h) (r := 0) bo.2 hk).2]; exact bo.1) (Nat.lt_of_lt_of_le hk bo.2.1) (by omega) w (fun x a b => by rw [sk, (hK 24 (by decide)).2.2.2.1]; exact h24 x a b) (fun c'' k1 k2 => by
        have g := gl_284c hS hR0 eS hP hi hk h24 ks m (h + 1) c'' (by omega) (kp_tr hK k1) (by rw [nx]; exact k2)
        rw [nx] at g
        rw [sk]; exact g) R 0 c' (by omega) (kp_rf _ _) h1
      rw [sk] at g
      exact g
theorem gl_284b {c0 : Cl} (hS : SR c1 c8 st S R D H Q M L E K) (hR0 : 0 < R) (eS : cA c0 20 B2 = S) (hP : Pw c0 B2) : ∀ (m k : Nat) (c' : Cl), k + m = R ^ lc S H → k ≤ bn (bst S R D H k) → Kp [24, 40, 41, 42] c0 c' → RBq c' B2 S R H (bst S R D H k) → Rn (G_284 B2 1 [nI (bn (bst S R D H k)), nI k] [] [] c') (fun r => Kp [24, 40, 41, 42] c0 r ∧ ∃ k, bn (bst S R D H k) ≤ k ∧ RBq r B2 S R H (bst S R D H k)) := fun m => by
  induction m with
  | zero =>
    intro k c' hm hk hK h1
    obtain ⟨⟨-, hR, r6⟩, -, ⟨-, hH, h6⟩, -⟩ := hS.1.1
    obtain ⟨Kx, bi⟩ := (bst_ok (D := D) hR0 r6 h6 (q0_ok hS) k).2
    have nN := uq_n bi.1
    have sz := pow_sz (S := S) r6 h6
    rw [G_284]
    exact rn_p (nI_le (by omega) (by omega)) (rn_r ⟨hK, k, by omega, h1⟩)
  | succ m ih =>
    intro k c' hm hk hK h1
    obtain ⟨⟨-, hR, r6⟩, -, ⟨-, hH, h6⟩, -⟩ := hS.1.1
    obtain ⟨Kx, bi⟩ := (bst_ok (D := D) hR0 r6 h6 (q0_ok hS) k).2
    have nN := uq_n bi.1
    have sz := pow_sz (S := S) r6 h6
    by_cases w : k < bn (bst S R D H k)
    · have nx : bst S R D H (k + 1) = bex S R D H k (bst S R D H k) H := by show (if k < bn (bst S R D H k) then bex S R D H k (bst S R D H k) H else bst S R D H k) = _; rw [if_pos w]
      have bik := (bst_ok (D := D) hR0 r6 h6 (q0_ok hS) k).1 w
      have bx := bst_x (D := D) hR0 r6 h6 (q0_ok hS) k
      rw [G_284]
      refine rn_n (nI_ge w (by omega)) (rn_ld (by omega) (by decide) ?_)
      rw [h1.2.2.2 k w]
      refine rn_b (look_ok (S := S) (H := H) (c := c') (B2 := B2) (s := bu (bst S R D H k) k) hR0 r6 (pw_k hK (by decide) hP)) (fun r ⟨r1, r2⟩ => ?_)
      have h1' : RBq r B2 S R H (bst S R D H k) := by
        unfold RBq
        rw [(r1 40 (by decide)).2.2.2.1, (r1 41 (by decide)).2.2.2.1, (r1 42 (by decide)).2.2.2.1]; exact h1
      have k2 : Kp [24, 40, 41, 42] c0 r := kp_tr hK (kp_wd r1 (by decide))
      refine gl_284c (D := D) (c0 := r) (σ := bst S R D H k) (k := k) hS hR0 (by rw [(k2 20 (by decide)).2.2.2.1]; exact eS) (pw_k k2 (by decide) hP) bik w (fun h a b => r2 h a b (by omega)) (fun c'' k3 h3 => ?_) H 0 r (by omega) (kp_rf _ _) h1'
      rw [← nx] at h3 ⊢
      exact ih (k + 1) c'' (by omega) (Nat.le_trans w bx.1) (kp_tr k2 (kp_wd k3 (by decide))) h3
    · rw [G_284]
      exact rn_p (nI_le (by omega) (by omega)) (rn_r ⟨hK, k, by omega, h1⟩)
theorem gl_284a {Po : Cl → Prop} {c0 : Cl} (ks : ∀ c', Kp [40] c0 c' → (∀ c, c < 46656 → cA c' 40 B2 c = -1) → Rn (F_256 c' B2 >>= fun r2 => ast c' 42 B2 46656 0 r2 >>= fun c12_3 => ald (cA c12_3 42 B2) 46656 0 >>= fun v4 => ast c12_3 40 B2 46656 v4 0 >>= fun c12_5 => G_284 B2 1 [1, 0] [] [] c12_5) Po) : ∀ (m c : Nat) (c' : Cl), c + m = 46656 → Kp [40] c0 c' → (∀ i, i < c → cA c' 40 B2 i = -1) → Rn (G_284 B2 0 [nI c] [] [] c') Po
  | 0, c, c', hc, hK, h1 => by
    have : c = 46656 := by omega
    subst this
    rw [G_284]
    exact rn_p (by decide) (ks c' hK h1)
  | m + 1, c, c', hc, hK, h1 => by
    rw [G_284]
    refine rn_n (show ¬ (46656 : Int32) ≤ nI c from nI_ge (a := c) (b := 46656) (by omega) (by decide)) (rn_st (by omega) (by decide) ?_)
    rw [nI_1]
    refine gl_284a ks m (c + 1) _ (by omega) (kp_tr hK (kp_A (by decide))) (fun i hi => ?_)
    rw [cA_same]
    by_cases w : i = c
    · subst w; rw [pk_us]
    · rw [pk_un w]; exact h1 i (by omega)
/-- the reference spreads -/
theorem f_284 {c0 : Cl} (hS : SR c1 c8 st S R D H Q M L E K) (hR0 : 0 < R) (eS : cA c0 20 B2 = S) (hP : Pw c0 B2) : Rn (F_284 c0 B2) (fun r => Kp [24, 40, 41, 42] c0 r ∧ ∃ k, bn (bst S R D H k) ≤ k ∧ RBq r B2 S R H (bst S R D H k)) := by
  obtain ⟨⟨-, hR, r6⟩, -, ⟨-, hH, h6⟩, -⟩ := hS.1.1
  unfold F_284
  refine gl_284a (c0 := c0) (fun c' k1 h1 => ?_) 46656 0 c0 rfl (kp_rf _ _) (fun i hi => absurd hi (Nat.not_lt_zero _))
  have eS' : cA c' 20 B2 = S := by rw [(k1 20 (by decide)).2.2.2.1]; exact eS
  have hS' : SR c1 c8 st (cA c' 20 B2) R D H Q M L E K := by rw [eS']; exact hS
  have hk := kc_lt (S := S) (R := R) (q0_ok hS)
  have e0 : cd 6 (qx (cA c' 20 B2) H (q0 (cA c' 20 B2))) 6 = ph S R H (kc S R H (q0 S)) := by rw [eS', ph_kc hR0 (q0_ok hS)]; rfl
  have b1 := ph_lt (S := S) (H := H) hR0 r6 (kc S R H (q0 S))
  refine rn_e (f_256 hS' (pw_k k1 (by decide) hP)) ?_
  rw [e0]
  refine rn_e (ast_ok (i := 0) (by decide) (by decide)) (rn_e (ald_ok (i := 0) (by decide) (by decide)) ?_)
  rw [cA_same, pk_us]
  refine rn_st b1 (by decide) ?_
  have g := gl_284b (D := D) (c0 := c0) hS hR0 eS hP (R ^ lc S H) 0 (sA (sA c' 42 B2 (upd (cA c' 42 B2) 0 (nI (ph S R H (kc S R H (q0 S)))))) 40 B2 (upd (cA (sA c' 42 B2 (upd (cA c' 42 B2) 0 (nI (ph S R H (kc S R H (q0 S)))))) 40 B2) (ph S R H (kc S R H (q0 S))) 0)) (by omega) (Nat.zero_le _) (kp_tr (kp_wd k1 (by decide)) (kp_tr (kp_A (by decide)) (kp_A (by decide)))) ⟨fun s hs => ?_, fun c hc z => ?_, fun s hs z => ?_, fun j hj => ?_⟩
  · exact g
  · show _ = nI (if s = kc S R H (q0 S) then 1 else 0) - 1
    simp only [cI_sI, cI_sJ, cI_sR, cI_sA, cI_sB, cI_sQ, cR_sI, cR_sJ, cR_sR, cR_sA, cR_sB, cR_sQ, cA_sI, cA_sJ, cA_sR, cA_sA, cA_sB, cA_sQ, Nat.reduceEqDiff, false_and, and_false, and_true, true_and, if_false, if_true, and_self, ↓reduceIte]
    by_cases w : s = kc S R H (q0 S)
    · rw [w, pk_us, if_pos rfl]; rfl
    · rw [pk_un (fun e => w (ph_inj hR0 r6 h6 hs hk e)), if_neg w, h1 _ (ph_lt hR0 r6 s)]; rfl
  · simp only [cI_sI, cI_sJ, cI_sR, cI_sA, cI_sB, cI_sQ, cR_sI, cR_sJ, cR_sR, cR_sA, cR_sB, cR_sQ, cA_sI, cA_sJ, cA_sR, cA_sA, cA_sB, cA_sQ, Nat.reduceEqDiff, false_and, and_false, and_true, true_and, if_false, if_true, and_self, ↓reduceIte]
    rw [pk_un (fun e => z _ hk e.symm)]; exact h1 c hc
  · have z' : 2 ≤ (if s = kc S R H (q0 S) then 1 else 0) := z
    split at z' <;> omega
  · have hj' : j < 1 := hj
    have : j = 0 := by omega
    subst this
    simp only [cI_sI, cI_sJ, cI_sR, cI_sA, cI_sB, cI_sQ, cR_sI, cR_sJ, cR_sR, cR_sA, cR_sB, cR_sQ, cA_sI, cA_sJ, cA_sR, cA_sA, cA_sB, cA_sQ, Nat.reduceEqDiff, false_and, and_false, and_true, true_and, if_false, if_true, and_self, ↓reduceIte]
    rw [pk_us]; rfl
end Spr
