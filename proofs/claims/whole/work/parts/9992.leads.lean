/-! ===== theft: what leads on is kept in order, by the reference ===== -/
/-- rows of codes that ascend -/
def LdS (c : Cl) (B2 n : Nat) (g : Nat → Nat) : Prop := cI c 39 B2 = nI n ∧ (∀ j, j < n → cA c 38 B2 j = nI (g j) ∧ g j < 46656) ∧ (∀ i j, i < j → j < n → g i < g j)
section Leads
variable {c1 c8 : Cl} {st B2 : Nat} {S : Nat → Int32} {R D H Q M L E : Nat} {K : Nat → Nat}
theorem gl_279 {cz : Cl} {v n : Nat} {g : Nat → Nat} (hv : v < 46656) (hn : n < 420) (h39 : cI cz 39 B2 = nI n) (hb : ∀ j, j < n → g j < 46656) (hs : ∀ i j, i < j → j < n → g i < g j) (hne : ∀ j, j < n → g j ≠ v) : ∀ (k : Nat) (c' : Cl), k ≤ n → (∀ j, k ≤ j → j < n → v < g j) → (∀ j, j < k → cA c' 38 B2 j = nI (g j)) → (∀ j, k < j → j ≤ n → cA c' 38 B2 j = nI (g (j - 1))) → Kp [38] cz c' → Rn (G_279 B2 0 [nI v, nI k] [] [] c') (fun r => Kp [38, 39] cz r ∧ ∃ g', LdS r B2 (n + 1) g' ∧ ∀ x, (∃ j, j < n + 1 ∧ g' j = x) ↔ (x = v ∨ ∃ j, j < n ∧ g j = x)) := fun k => by
  have fin : ∀ (k : Nat) (c' : Cl), k ≤ n → (∀ j, k ≤ j → j < n → v < g j) → (∀ j, j < k → g j < v) → (∀ j, j < k → cA c' 38 B2 j = nI (g j)) → (∀ j, k < j → j ≤ n → cA c' 38 B2 j = nI (g (j - 1))) → Kp [38] cz c' → Rn (G_279 B2 1 [nI v, nI k] [] [] c') (fun r => Kp [38, 39] cz r ∧ ∃ g', LdS r B2 (n + 1) g' ∧ ∀ x, (∃ j, j < n + 1 ∧ g' j = x) ↔ (x = v ∨ ∃ j, j < n ∧ g j = x)) := fun k c' hk h1 h0 h2 h3 hK => by
    rw [G_279]
    refine rn_st (by omega) (by decide) (rn_s ?_)
    rw [cI_sA, (hK 39 (by decide)).1, h39, nI_1]
    refine rn_r ⟨kp_tr (kp_wd hK (by decide)) (kp_tr (kp_A (by decide)) (kp_I (by decide))), fun j => if j < k then g j else if j = k then v else g (j - 1), ⟨?_, fun j hj => ?_, fun i j hij hj => ?_⟩, fun x => ⟨?_, ?_⟩⟩
    · rw [cI_same]
    · rw [cA_sI, cA_same]
      dsimp only
      by_cases w : j = k
      · rw [w, pk_us, if_neg (Nat.lt_irrefl _), if_pos rfl]; exact ⟨rfl, hv⟩
      · rw [pk_un w]
        by_cases u : j < k
        · rw [if_pos u]; exact ⟨h2 j u, hb j (by omega)⟩
        · rw [if_neg u, if_neg w]; exact ⟨h3 j (by omega) (by omega), hb _ (by omega)⟩
    · dsimp only
      by_cases u : j < k
      · rw [if_pos u, if_pos (show i < k by omega)]; exact hs i j hij (by omega)
      · rw [if_neg u]
        by_cases w : j = k
        · rw [if_pos w, if_pos (show i < k by omega)]; exact h0 i (by omega)
        · rw [if_neg w]
          by_cases u2 : i < k
          · rw [if_pos u2]
            have a := h0 i u2
            have b := h1 (j - 1) (by omega) (by omega)
            omega
          · rw [if_neg u2]
            by_cases w2 : i = k
            · rw [if_pos w2]; exact h1 (j - 1) (by omega) (by omega)
            · rw [if_neg w2]; exact hs (i - 1) (j - 1) (by omega) (by omega)
    · rintro ⟨j, hj, e⟩
      dsimp only at e
      by_cases u : j < k
      · rw [if_pos u] at e; exact Or.inr ⟨j, by omega, e⟩
      · rw [if_neg u] at e
        by_cases w : j = k
        · rw [if_pos w] at e; exact Or.inl e.symm
        · rw [if_neg w] at e; exact Or.inr ⟨j - 1, by omega, e⟩
    · rintro (e | ⟨j, hj, e⟩)
      · exact ⟨k, by omega, by dsimp only; rw [if_neg (Nat.lt_irrefl _), if_pos rfl, e]⟩
      · by_cases u : j < k
        · exact ⟨j, by omega, by dsimp only; rw [if_pos u]; exact e⟩
        · exact ⟨j + 1, by omega, by dsimp only; rw [if_neg (by omega), if_neg (by omega)]; exact e⟩
  induction k with
  | zero =>
    intro c' hk h1 h2 h3 hK
    rw [G_279]
    exact rn_p (by decide) (fin 0 c' hk h1 (fun j hj => absurd hj (Nat.not_lt_zero _)) h2 h3 hK)
  | succ k ih =>
    intro c' hk h1 h2 h3 hK
    have bk := hb k (by omega)
    rw [G_279]
    refine rn_n (nI_nle (by omega) (by omega)) ?_
    rw [nI_pred]
    refine rn_ld (by omega) (by decide) ?_
    rw [h2 k (by omega)]
    by_cases w : g k ≤ v
    · refine rn_p (nI_le w (by omega)) (fin (k + 1) c' hk h1 (fun j hj => ?_) h2 h3 hK)
      have := hne k (by omega)
      by_cases u : j = k
      · rw [u]; omega
      · have := hs j k (by omega) (by omega); omega
    · refine rn_n (nI_ge (by omega) (by omega)) (rn_ld (by omega) (by decide) (rn_st (by omega) (by decide) ?_))
      rw [pk_m1]
      refine ih _ (by omega) (fun j j1 j2 => ?_) (fun j hj => ?_) (fun j j1 j2 => ?_) (kp_tr hK (kp_A (by decide)))
      · by_cases u : j = k
        · rw [u]; omega
        · exact h1 j (by omega) j2
      · rw [cA_same, pk_un (by omega)]; exact h2 j (by omega)
      · rw [cA_same]
        by_cases u : j = k + 1
        · rw [u, pk_us, h2 k (by omega)]; rfl
        · rw [pk_un u]; exact h3 j (by omega) j2
theorem f_279 {cz : Cl} {v n : Nat} {g : Nat → Nat} (hv : v < 46656) (hn : n < 420) (h : LdS cz B2 n g) (hne : ∀ j, j < n → g j ≠ v) : Rn (F_279 cz B2 (nI v)) (fun r => Kp [38, 39] cz r ∧ ∃ g', LdS r B2 (n + 1) g' ∧ ∀ x, (∃ j, j < n + 1 ∧ g' j = x) ↔ (x = v ∨ ∃ j, j < n ∧ g j = x)) := by
  unfold F_279
  rw [h.1]
  exact gl_279 hv hn h.1 (fun j hj => (h.2.1 j hj).2) h.2.2 hne n cz (Nat.le_refl _) (fun j a b => by omega) (fun j hj => (h.2.1 j hj).1) (fun j a b => by omega) (kp_rf _ _)
/-- how many go, by the reference -/
theorem gl_281 {c : Cl} {s t : Nat} (hS : SR c1 c8 st S R D H Q M L E K) (hR0 : 0 < R) (hP : Pw c B2) : ∀ m i, i + m = 6 → G_281 c B2 0 [nI (ph S R H s), nI (ph S R H t), nI (sn (fun h => if qx S H (qs S R H s) h = qx S H (qs S R H t) h then 0 else 1) i), nI i] [] [] = some (nI (sn (fun h => if qx S H (qs S R H s) h = qx S H (qs S R H t) h then 0 else 1) 6))
  | 0, i, hi => by
    have : i = 6 := by omega
    subst this
    rw [G_281]
    exact in_pos (by decide) rfl
  | m + 1, i, hi => by
    have ih := gl_281 (s := s) (t := t) hS hR0 hP m (i + 1) (by omega)
    obtain ⟨⟨-, -, r6⟩, -⟩ := id hS.1.1
    have p0 : 0 < 6 ^ (5 - i) := Nat.pow_pos (by decide)
    have p1 : 6 ^ (5 - i) ≤ 6 ^ 6 := Nat.pow_le_pow_right (by decide) (by omega)
    have p2 : (6 : Nat) ^ 6 = 46656 := rfl
    have dgq : ∀ u, ph S R H u / 6 ^ (5 - i) % 6 = qx S H (qs S R H u) i := fun u => dg_cd (b := 6) (p := qx S H (qs S R H u)) (n := 6) (by decide) (qx_lt (qs_ok hR0 u) r6) i (by omega)
    have b : ∀ u, ph S R H u < 46656 := fun u => ph_lt hR0 r6 u
    have d1 : ∀ u, idv (nI (ph S R H u)) (nI (6 ^ (5 - i))) = some (nI (ph S R H u / 6 ^ (5 - i))) := fun u => by
      have := b u
      unfold idv; rw [if_neg (nI_ne0 p0 (by omega))]; exact congrArg some (pk_div (by omega) p0 (by omega))
    have d2 : ∀ u, irm (nI (ph S R H u / 6 ^ (5 - i))) 6 = some (nI (qx S H (qs S R H u) i)) := fun u => by
      have := b u
      have := Nat.div_le_self (ph S R H u) (6 ^ (5 - i))
      exact (irm_ok (y := 6) (by omega) (by decide) (by decide)).trans (by rw [dgq u])
    have a25 : ald (cA c 25 B2) 6 (nI i) = some (nI (6 ^ (5 - i))) := (ald_ok (by omega) (by decide)).trans (by rw [hP i (by omega)])
    have l1 := qx_lt (qs_ok (S := S) (H := H) hR0 s) r6 i (by omega)
    have l2 := qx_lt (qs_ok (S := S) (H := H) hR0 t) r6 i (by omega)
    rw [G_281]
    refine in_neg (show ¬ (6 : Int32) ≤ nI i from nI_ge (a := i) (b := 6) (by omega) (by decide)) (ob_mk a25 (ob_mk (d1 s) (ob_mk (d2 s) (ob_mk a25 (ob_mk (d1 t) (ob_mk (d2 t) (ob_mk (v := nI (if qx S H (qs S R H s) i = qx S H (qs S R H t) i then 0 else 1)) ?_ (by rw [nI_add, nI_1]; exact ih))))))))
    by_cases w : qx S H (qs S R H s) i = qx S H (qs S R H t) i
    · rw [if_pos w, if_pos (by rw [w])]; rfl
    · rw [if_neg w, if_neg (fun z => w ((nI_eq (by omega) (by omega)).mp z))]; rfl
theorem f_281 {c : Cl} {s t : Nat} (hS : SR c1 c8 st S R D H Q M L E K) (hR0 : 0 < R) (hP : Pw c B2) : F_281 c B2 (nI (ph S R H s)) (nI (ph S R H t)) = some (nI (gn S H (qs S R H s) (qs S R H t))) := by
  have h6 := hS.1.1.2.2.1.2.2
  unfold F_281
  refine (gl_281 (s := s) (t := t) hS hR0 hP 6 0 rfl).trans ?_
  congr 2
  have e := sn_ext (f := fun h => if qx S H (qs S R H s) h = qx S H (qs S R H t) h then 0 else 1) (n := H) (m := 6 - H) (fun i h1 h2 => by
    show (if qx S H (qs S R H s) i = qx S H (qs S R H t) i then 0 else 1) = 0
    have z : ∀ u, qx S H u i = 0 := fun u => by unfold qx; exact if_neg (show ¬ i < H by omega)
    rw [z, z, if_pos rfl])
  rw [show H + (6 - H) = 6 by omega] at e
  rw [e]
  refine sn_cg fun h hh => ?_
  by_cases w : lv S h = 0
  · rw [if_pos w]
    unfold qx
    rw [if_pos hh, if_pos hh, if_pos w, if_pos w, if_pos rfl]
  · rw [if_neg w, qx_l hh w, qx_l hh w]
    by_cases u : qs S R H s h = qs S R H t h
    · rw [if_pos u, if_pos u.symm]
    · rw [if_neg u, if_neg (fun z => u z.symm)]
end Leads
