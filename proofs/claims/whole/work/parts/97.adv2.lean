/-! ===== ways go on by a minute: the class ===== -/
section Adv2
variable {c1 c6 c7 c8 c13 : Cl} {d : Ad} {sc sr st : Nat} {S : Nat → Int32} {R D H Q M L E : Nat} {K : Nat → Nat}
theorem ee_1 {s t h r : Nat} : ee S R D H s t h r ≤ 1 := by unfold ee; split; · decide
                                                            · split <;> decide
theorem se_6 {s t h r : Nat} : sn (fun r => ee S R D H s t h r) r ≤ r := by
  have := sn_le (f := fun r => ee S R D H s t h r) (g := fun _ => 1) (n := r) (fun i _ => ee_1)
  rw [sn_k, Nat.mul_one] at this
  exact this
/-- how often, over the first so many that live -/
def wc (S : Nat → Int32) (R D H s t i : Nat) : Nat := sn (fun i => sn (fun r => ee S R D H s t (nbf S H i) r) R) i
theorem wc_le {s t i : Nat} (r6 : R ≤ 6) : wc S R D H s t i ≤ 6 * i := by
  have := sn_le (f := fun i => sn (fun r => ee S R D H s t (nbf S H i) r) R) (g := fun _ => 6) (n := i) (fun j _ => Nat.le_trans se_6 r6)
  rw [sn_k] at this
  unfold wc; omega
theorem wc_cw {s t : Nat} : wc S R D H s t (lc S H) = cw S R D H s t := sn_lc (S := S) (f := fun h => sn (fun r => ee S R D H s t h r) R) (H := H) (n := H) (Nat.le_refl _)
theorem cw_le {s t : Nat} (r6 : R ≤ 6) (h6 : H ≤ 6) : cw S R D H s t ≤ 36 := by
  rw [← wc_cw]
  have := wc_le (S := S) (D := D) (H := H) (s := s) (t := t) (i := lc S H) r6
  have := lc_le S H
  omega
/-- the new rows: what a spread needs -/
def NR (c6 c7 : Cl) (d : Ad) (sr sc P' Pq' N Z' : Nat) : Prop := cR c7 0 sr = sc ∧ cR c6 13 sc = P' ∧ cR c6 15 sc = Pq' ∧ aN d P' = Z' ∧ aN d Pq' = Z' ∧ N ≤ Z' ∧ Z' ≤ 46656
theorem nr_k {c6' : Cl} {P' Pq' N Z' : Nat} {Ks : List Nat} (h : NR c6 c7 d sr sc P' Pq' N Z') (hK : Kp Ks c6 c6') (k1 : 13 ∉ Ks) (k2 : 15 ∉ Ks) : NR c6' c7 d sr sc P' Pq' N Z' := by
  obtain ⟨a, b, e, g⟩ := h
  exact ⟨a, by rw [(hK 13 k1).2.2.1]; exact b, by rw [(hK 15 k2).2.2.1]; exact e, g⟩
theorem gl_72b {Po : Int32 × Cl × Cl → Prop} {P' Pq' Z' s v i : Nat} {f : Nat → Nat} (hS : SR c1 c8 st S R D H Q M L E K) (hR0 : 0 < R) (hC : SC c6 sc S R D H Q) (hA : AT c6 sc S R H (qs S R H s)) (hn : NR c6 c7 d sr sc P' Pq' (R ^ lc S H) Z') (hs : s < R ^ lc S H) (v0 : 0 < v) (hb : ∀ t, t < R ^ lc S H → f t + 37 * v < 2 ^ 60) (hi : i < lc S H) (ks : ∀ (n : Nat) (u : Nat → Nat) (c' : Cl), AQ c' P' Pq' (R ^ lc S H) Z' (fun t => f t + v * wc S R D H s t (i + 1)) n u → Ota [P', Pq'] c13 c' → Rn (G_72 c6 c7 d sr 0 [nI s, nI n, nI (i + 1)] [lN v] [] c') Po) : ∀ (m r : Nat) (n : Nat) (u : Nat → Nat) (c' : Cl), r + m = R → AQ c' P' Pq' (R ^ lc S H) Z' (fun t => f t + v * (wc S R D H s t i + sn (fun r => ee S R D H s t (nbf S H i) r) r)) n u → Ota [P', Pq'] c13 c' → Rn (G_72 c6 c7 d sr 1 [nI s, nI n, nI i, nI r] [lN v] [] c') Po
  | 0, r, n, u, c', hr, h1, hO => by
    have : r = R := by omega
    subst this
    have r6 := hS.1.1.1.2.2
    rw [G_72, hn.1, hC.1]
    refine rn_p (nI_le (Nat.le_refl _) (by omega)) ?_
    rw [nI_1]
    exact ks n u c' h1 hO
  | m + 1, r, n, u, c', hr, h1, hO => by
    obtain ⟨⟨-, -, r6⟩, -, ⟨-, -, h6⟩, -⟩ := id hS.1.1
    have ll := lc_le S H
    obtain ⟨b1, b2, b3⟩ := nbf_ok hi
    obtain ⟨n0, n1, n2, n3, n4, n5, n6⟩ := id hn
    have sz := pow_sz (S := S) r6 h6
    have x60 := f_60 (q := qs S R H s) (i := i) (r := r) r6 h6 hi (by omega) (qs_ok hR0 s _ b1 b2) hC hA
    have e10 : ald (cA c6 10 sc) 6 (nI i) = some (nI (qs S R H s (nbf S H i))) := (ald_ok (by omega) (by decide)).trans (by rw [hA.1 i hi])
    have e6 : ald (cA c6 6 sc) 6 (nI i) = some (nI (R ^ (lc S H - 1 - i))) := (ald_ok (by omega) (by decide)).trans (by rw [(hC.2.2.2.1 i hi).2.2])
    have tc := tg_c (S := S) (r := r) hR0 hs b1 b2
    rw [b3] at tc
    have tl := tg_lt (S := S) (H := H) (s := s) (h := nbf S H i) hR0 (show r < R by omega)
    obtain ⟨t0, ht0⟩ : ∃ t0, t0 = tg S R H s (nbf S H i) r := ⟨_, rfl⟩
    rw [← ht0] at tc tl
    have wl := wc_le (S := S) (D := D) (H := H) (s := s) (i := i) (t := t0) r6
    have sl6 := se_6 (S := S) (R := R) (D := D) (H := H) (s := s) (t := t0) (h := nbf S H i) (r := r)
    have bb := hb _ tl
    rw [G_72, n0, hC.1]
    refine rn_n (nI_ge (by omega) (by omega)) (rn_e x60 ?_)
    by_cases w : cx S H D (qs S R H s) (nbf S H i) r = 0
    · refine rn_e (v := (nI n, c')) (in_pos w rfl) ?_
      rw [nI_1]
      refine gl_72b hS hR0 hC hA hn hs v0 hb hi ks m (r + 1) n u c' (by omega) (aq_cg h1 (fun t ht => ?_) rfl rfl) hO
      show _ + _ * (_ + (sn _ r + ee S R D H s t (nbf S H i) r)) = _
      rw [show ee S R D H s t (nbf S H i) r = 0 by unfold ee; rw [if_pos w], Nat.add_zero]
    · have mu : v * (wc S R D H s t0 i + sn (fun r => ee S R D H s t0 (nbf S H i) r) r) ≤ v * 36 := Nat.mul_le_mul_left _ (by omega)
      obtain ⟨rx, x1, n', u', x2, x3, x4⟩ := f_73 (c6 := c6) (c7 := c7) (c13 := c') (d := d) (sr := sr) (s := t0) (v := v) (n := n) n0 n1 n2 n3 n4 n5 (by omega) h1 tl v0 (by omega)
      refine rn_e (v := (rx.1, rx.2)) (in_neg w (ob_mk e10 (ob_mk e6 (ob_mk (by rw [tc]; exact x1) rfl)))) ?_
      dsimp only
      rw [x2, nI_1]
      refine gl_72b hS hR0 hC hA hn hs v0 hb hi ks m (r + 1) n' u' rx.2 (by omega) (aq_cg x3 (fun t ht => ?_) rfl rfl) (ota_tr hO x4)
      show f t + v * (wc S R D H s t i + (sn _ r + ee S R D H s t (nbf S H i) r)) = f t + v * (wc S R D H s t i + sn _ r) + _
      unfold ee
      rw [if_neg w, ← ht0]
      by_cases y : t0 = t
      · rw [if_pos y, if_pos y, ← Nat.add_assoc (wc S R D H s t i), Nat.mul_add v _ 1, Nat.mul_one, Nat.add_assoc]
      · rw [if_neg y, if_neg y, Nat.add_zero, Nat.add_zero]
theorem gl_72a {P' Pq' Z' s v : Nat} {f : Nat → Nat} (hS : SR c1 c8 st S R D H Q M L E K) (hR0 : 0 < R) (hC : SC c6 sc S R D H Q) (hA : AT c6 sc S R H (qs S R H s)) (hn : NR c6 c7 d sr sc P' Pq' (R ^ lc S H) Z') (hs : s < R ^ lc S H) (v0 : 0 < v) (hb : ∀ t, t < R ^ lc S H → f t + 37 * v < 2 ^ 60) : ∀ (m i : Nat) (n : Nat) (u : Nat → Nat) (c' : Cl), i + m = lc S H → AQ c' P' Pq' (R ^ lc S H) Z' (fun t => f t + v * wc S R D H s t i) n u → Ota [P', Pq'] c13 c' → Rn (G_72 c6 c7 d sr 0 [nI s, nI n, nI i] [lN v] [] c') (fun r => r.2.1 = c6 ∧ Ota [P', Pq'] c13 r.2.2 ∧ ∃ n' u', r.1 = nI n' ∧ AQ r.2.2 P' Pq' (R ^ lc S H) Z' (fun t => f t + v * cw S R D H s t) n' u')
  | 0, i, n, u, c', hi, h1, hO => by
    have : i = lc S H := by omega
    subst this
    have ll := lc_le S H
    have h6 := hS.1.1.2.2.1.2.2
    rw [G_72, hn.1, hC.2.1]
    refine rn_p (nI_le (Nat.le_refl _) (by omega)) (rn_r ⟨rfl, hO, n, u, rfl, aq_cg h1 (fun t ht => ?_) rfl rfl⟩)
    rw [wc_cw]
  | m + 1, i, n, u, c', hi, h1, hO => by
    have ll := lc_le S H
    have h6 := hS.1.1.2.2.1.2.2
    rw [G_72, hn.1, hC.2.1]
    refine rn_n (nI_ge (by omega) (by omega)) ?_
    exact gl_72b (c13 := c13) hS hR0 hC hA hn hs v0 hb (show i < lc S H by omega) (fun n' u' c'' k1 k2 => gl_72a hS hR0 hC hA hn hs v0 hb m (i + 1) n' u' c'' (by omega) k1 k2) R 0 n u c' (by omega) h1 hO
theorem f_72 {P' Pq' Z' s v n : Nat} {f u : Nat → Nat} (hS : SR c1 c8 st S R D H Q M L E K) (hR0 : 0 < R) (hC : SC c6 sc S R D H Q) (hn : NR c6 c7 d sr sc P' Pq' (R ^ lc S H) Z') (hs : s < R ^ lc S H) (v0 : 0 < v) (hb : ∀ t, t < R ^ lc S H → f t + 37 * v < 2 ^ 60) (h1 : AQ c13 P' Pq' (R ^ lc S H) Z' f n u) : Rn (F_72 c6 c7 c13 d sr (nI s) (lN v) (nI n)) (fun r => Kp [10, 11] c6 r.2.1 ∧ Oth sc c6 r.2.1 ∧ Ota [P', Pq'] c13 r.2.2 ∧ ∃ n' u', r.1 = nI n' ∧ AQ r.2.2 P' Pq' (R ^ lc S H) Z' (fun t => f t + v * cw S R D H s t) n' u') := by
  obtain ⟨⟨-, -, r6⟩, -, ⟨-, -, h6⟩, -⟩ := id hS.1.1
  unfold F_72
  rw [hn.1]
  have uf := unf_ok (c6 := c6) (sc := sc) (q := qs S R H s) r6 h6 (qs_ok hR0 s) hC
  have e : cd R (fun i => qs S R H s (nbf S H i)) (lc S H) = s := kc_qs hR0 hs
  rw [e] at uf
  refine rn_b uf (fun c6' ⟨k1, o1, a1⟩ => ?_)
  refine rn_m (gl_72a (c13 := c13) (c6 := c6') hS hR0 (SC_k k1 (by decide) hC) a1 (nr_k hn k1 (by decide) (by decide)) hs v0 hb (lc S H) 0 n u c13 (by omega) (aq_cg h1 (fun t ht => by show f t + v * 0 = f t; omega) rfl rfl) (ota_rf _ _)) (fun r ⟨a, b, e⟩ => ⟨by rw [a]; exact k1, by rw [a]; exact o1, b, e⟩)
/-- one situation after the other -/
theorem gl_71 {P Pq P' Pq' Z Z' n : Nat} {f u : Nat → Nat} (hS : SR c1 c8 st S R D H Q M L E K) (hR0 : 0 < R) (hC : SC c6 sc S R D H Q) (e7 : cR c7 0 sr = sc) (hr : Rows c6 d sc P Pq P' Pq' Z Z') (hZ : R ^ lc S H ≤ Z) (hZ' : R ^ lc S H ≤ Z') (h : AQ c13 P Pq (R ^ lc S H) Z f n u) (hb : 38 * sn f (R ^ lc S H) < 2 ^ 60) : ∀ (m j n' : Nat) (u' : Nat → Nat) (c6' c' : Cl), j + m = n → Kp [10, 11] c6 c6' → Oth sc c6 c6' → Ota [P, P', Pq'] c13 c' → (∀ s, s < Z → cB c' 0 P s = if anyb (fun i => decide (u i = s)) j = true then 0 else cB c13 0 P s) → AQ c' P' Pq' (R ^ lc S H) Z' (fun t => sn (fun i => f (u i) * ((if u i = t then 1 else 0) + cw S R D H (u i) t)) j) n' u' → Rn (G_71 c7 d sr 0 [nI n, nI n', nI j] [] [] c6' c') (fun r => Kp [10, 11, 12, 13, 14, 15] c6 r.2.1 ∧ Oth sc c6 r.2.1 ∧ r.2.2.2 = d ∧ Rows r.2.1 d sc P' Pq' P Pq Z' Z ∧ Ota [P, P', Pq'] c13 r.2.2.1 ∧ (∀ s, s < Z → cB r.2.2.1 0 P s = 0) ∧ ∃ n' u', r.1 = nI n' ∧ AQ r.2.2.1 P' Pq' (R ^ lc S H) Z' (nw S R D H f) n' u')
  | 0, j, n', u', c6', c', hj, hK, hO, hf, h1, h2 => by
    have : j = n := by omega
    subst this
    obtain ⟨⟨-, -, r6⟩, -, ⟨-, -, h6⟩, -⟩ := id hS.1.1
    have nN := aq_n h
    have sz := pow_sz (S := S) r6 h6
    rw [G_71, e7]
    have hr' : Rows c6' d sc P Pq P' Pq' Z Z' := by
      unfold Rows
      rw [(hK 12 (by decide)).2.2.1, (hK 13 (by decide)).2.2.1, (hK 14 (by decide)).2.2.1, (hK 15 (by decide)).2.2.1]; exact hr
    refine rn_p (nI_le (Nat.le_refl _) (by omega)) (rn_b (f_55 hr') (fun r ⟨t1, t2, t3⟩ => rn_r ⟨kp_tr (kp_wd hK (by decide)) (kp_wd t2 (by decide)), oth_tr hO t3, rfl, t1, hf, fun s hs => ?_, n', u', rfl, aq_cg h2 (fun t ht => ?_) rfl rfl⟩))
    · dsimp only
      rw [h1 s hs]
      by_cases w : anyb (fun i => decide (u i = s)) j = true
      · rw [if_pos w]
      · rw [if_neg w]
        by_cases v : s < R ^ lc S H
        · rw [h.1 s v]
          have : f s = 0 := Classical.byContradiction fun z => by
            obtain ⟨i, hi, ei⟩ := h.2.2.2.2 s v z
            exact w (anyb_t.mpr ⟨i, hi, by simp [ei]⟩)
          rw [this]; rfl
        · exact h.2.1 s (by omega) hs
    · unfold nw
      exact (aq_sum h (G := fun s => f s * ((if s = t then 1 else 0) + cw S R D H s t)) (fun s _ z => by rw [z, Nat.zero_mul])).symm
  | m + 1, j, n', u', c6', c', hj, hK, hO, hf, h1, h2 => by
    obtain ⟨⟨-, -, r6⟩, -, ⟨-, -, h6⟩, -⟩ := id hS.1.1
    have nN := aq_n h
    have sz := pow_sz (S := S) r6 h6
    obtain ⟨⟨r1, r2, r3, r4⟩, ⟨a1, a2, a3, a4⟩, ⟨z1, z2⟩, -, y1, y2, y3, y4, y5, y6⟩ := id hr
    obtain ⟨x1, x2, x3⟩ := h.2.2.1 j (by omega)
    have eq : cA c' 0 Pq = cA c13 0 Pq := (hf 0 Pq (by simp; exact ⟨Ne.symm y1, y4, y5⟩)).2.2.2.1
    have em : cB c' 0 P (u j) = lN (f (u j)) := by
      rw [h1 _ (by omega), if_neg (fun z => ?_)]
      · exact h.1 _ x2
      · obtain ⟨i, hi, ei⟩ := anyb_t.mp z
        simp only [decide_eq_true_eq] at ei
        have := h.2.2.2.1 i j (by omega) (by omega) ei
        omega
    have c12' : cR c6' 12 sc = P := by rw [(hK 12 (by decide)).2.2.1]; exact r1
    have c14' : cR c6' 14 sc = Pq := by rw [(hK 14 (by decide)).2.2.1]; exact r2
    have tot : sn (fun i => f (u i)) n = sn f (R ^ lc S H) := aq_sum h (G := f) (fun s _ z => z)
    have mono : sn (fun i => f (u i)) (j + 1) ≤ sn (fun i => f (u i)) n := by
      have e : ∀ k, sn (fun i => f (u i)) (j + 1) ≤ sn (fun i => f (u i)) (j + 1 + k) := fun k => by
        induction k with
        | zero => exact Nat.le_refl _
        | succ k ih => exact Nat.le_trans ih (Nat.le_add_right _ _)
      have := e (n - (j + 1))
      rw [show j + 1 + (n - (j + 1)) = n by omega] at this
      exact this
    have bnd : ∀ t, sn (fun i => f (u i) * ((if u i = t then 1 else 0) + cw S R D H (u i) t)) j + 38 * f (u j) < 2 ^ 60 := fun t => by
      have l : sn (fun i => f (u i) * ((if u i = t then 1 else 0) + cw S R D H (u i) t)) j ≤ sn (fun i => f (u i) * 37) j := sn_le fun i _ => Nat.mul_le_mul_left _ (by
        have := cw_le (S := S) (D := D) (s := u i) (t := t) r6 h6
        split <;> omega)
      rw [sn_mul] at l
      have e : sn (fun i => f (u i)) (j + 1) = sn (fun i => f (u i)) j + f (u j) := rfl
      omega
    rw [G_71, e7, c12', c14', a1, a2]
    refine rn_n (nI_ge (by omega) (by omega)) (rn_ld (by omega) (by omega) ?_)
    rw [eq, x1]
    refine rn_ll (by omega) (by omega) ?_
    rw [em]
    refine rn_sl (by omega) (by omega) ?_
    have hn' : NR c6' c7 d sr sc P' Pq' (R ^ lc S H) Z' := ⟨e7, by rw [(hK 13 (by decide)).2.2.1]; exact r3, by rw [(hK 15 (by decide)).2.2.1]; exact r4, a3, a4, hZ', z2⟩
    have h2' : AQ (sB c' 0 P (vp_updL (cB c' 0 P) (u j) 0)) P' Pq' (R ^ lc S H) Z' (fun t => sn (fun i => f (u i) * ((if u i = t then 1 else 0) + cw S R D H (u i) t)) j) n' u' := aq_cg h2 (fun _ _ => rfl) (by rw [cB_sB, if_neg (fun z => y2 z.2.symm)]) rfl
    have f0 : 0 < f (u j) := Nat.pos_of_ne_zero x3
    have bu := bnd (u j)
    refine rn_b (f_73 (s := u j) (v := f (u j)) e7 hn'.2.1 hn'.2.2.1 a3 a4 hZ' (by omega) h2' x2 f0 (by omega)) (fun r ⟨n2, u2, g1, g2, g3⟩ => ?_)
    rw [g1]
    refine rn_b (f_72 (c6 := c6') (s := u j) (v := f (u j)) hS hR0 (SC_k hK (by decide) hC) hn' x2 f0 (fun t ht => ?_) g2) (fun r' ⟨w1, w2, w3, n3, u3, w4, w5⟩ => ?_)
    · have := bnd t
      show sn (fun i => f (u i) * ((if u i = t then 1 else 0) + cw S R D H (u i) t)) j + (if u j = t then f (u j) else 0) + 37 * f (u j) < 2 ^ 60
      split <;> omega
    · rw [w4, nI_1]
      refine gl_71 hS hR0 hC e7 hr hZ hZ' h hb m (j + 1) n3 u3 r'.2.1 r'.2.2 (by omega) (kp_tr hK w1) (oth_tr hO w2) (ota_tr hf (ota_tr (ota_o oth_B (by simp)) (ota_tr (ota_wd g3 (by simp)) (ota_wd w3 (by simp))))) (fun s hs => ?_) (aq_cg w5 (fun t ht => ?_) rfl rfl)
      · rw [(w3 0 P (by simp; exact ⟨y2, y3⟩)).2.2.2.2.1, (g3 0 P (by simp; exact ⟨y2, y3⟩)).2.2.2.2.1, cB_same]
        show _ = if (anyb (fun i => decide (u i = s)) j || decide (u j = s)) = true then 0 else cB c13 0 P s
        by_cases w : s = u j
        · subst w; rw [pk_uLs, if_pos (by simp)]
        · have : ¬ u j = s := fun z => w z.symm
          rw [pk_uLn w, h1 s hs, decide_eq_false this, Bool.or_false]
      · show sn _ j + f (u j) * ((if u j = t then 1 else 0) + cw S R D H (u j) t) = _
        rw [Nat.mul_add, ← Nat.add_assoc]
        by_cases w : u j = t
        · rw [if_pos w, if_pos w, Nat.mul_one]
        · rw [if_neg w, if_neg w, Nat.mul_zero]
/-- a minute more -/
theorem f_71 {P Pq P' Pq' Z Z' n : Nat} {f u : Nat → Nat} (hS : SR c1 c8 st S R D H Q M L E K) (hR0 : 0 < R) (hC : SC c6 sc S R D H Q) (e7 : cR c7 0 sr = sc) (hr : Rows c6 d sc P Pq P' Pq' Z Z') (hZ : R ^ lc S H ≤ Z) (h : AQ c13 P Pq (R ^ lc S H) Z f n u) (hz : ∀ s, s < Z' → cB c13 0 P' s = 0) (hb : 38 * sn f (R ^ lc S H) < 2 ^ 60) : Rn (F_71 c6 c7 c13 d sr (nI n)) (fun r => Kp [10, 11, 12, 13, 14, 15] c6 r.2.1 ∧ Oth sc c6 r.2.1 ∧ ∃ P2 Pq2 Z2, Rows r.2.1 r.2.2.2 sc P2 Pq2 P Pq Z2 Z ∧ R ^ lc S H ≤ Z2 ∧ RM d [P, Pq, P', Pq'] r.2.2.2 [P2, Pq2, P, Pq] ∧ Ms d Z Z' r.2.2.2 Z2 Z 2 ∧ Ofa (aX d) [P, Pq, P', Pq'] c13 r.2.2.1 ∧ (∀ s, s < Z → cB r.2.2.1 0 P s = 0) ∧ ∃ n' u', r.1 = nI n' ∧ AQ r.2.2.1 P2 Pq2 (R ^ lc S H) Z2 (nw S R D H f) n' u') := by
  obtain ⟨⟨-, -, r6⟩, -, ⟨-, -, h6⟩, -⟩ := id hS.1.1
  have ll := lc_le S H
  obtain ⟨⟨r1, r2, r3, r4⟩, -, -, ⟨x1, x2, x3, x4⟩, -⟩ := id hr
  unfold F_71
  rw [e7]
  refine rn_b (f_54 (c13 := c13) (l := lc S H) (R := R) (by omega) (by omega) (pow_sz r6 h6) hC.2.2.1 hr hz) (fun r ⟨P2, Pq2, Z2, t1, t2, t3, t4, t5, t6, t7, t8⟩ => ?_)
  have hC' : SC r.1 sc S R D H Q := SC_k t4 (by decide) hC
  have g8 := fun a (ha : a < aX d) => t8 0 a ha (by simp)
  have h' : AQ r.2.1 P Pq (R ^ lc S H) Z f n u := aq_cg h (fun _ _ => rfl) (g8 P x1).2 (g8 Pq x2).1
  refine rn_m (gl_71 (c7 := c7) (c6 := r.1) (c13 := r.2.1) hS hR0 hC' e7 t1 hZ t2 h' hb n 0 0 (fun _ => 0) r.1 r.2.1 (by omega) (kp_rf _ _) (oth_rf _ _) (ota_rf _ _) (fun s hs => rfl) (aq_0 t3 t2)) (fun q ⟨k1, o1, ed, k2, k3, k4, k5⟩ => ⟨kp_tr (kp_wd t4 (by decide)) k1, oth_tr t5 o1, P2, Pq2, Z2, by rw [ed]; exact k2, t2, ?_, ?_, ?_, k4, k5⟩)
  · rw [ed]
    refine ⟨t6.1, fun a ha => t6.2 a ?_⟩
    simp only [List.mem_cons, List.not_mem_nil, or_false] at ha ⊢
    omega
  · rw [ed]; exact ms_sw t7
  · refine ofa_tr (fun k a ha hn => t8 k a ha (by simp)) t6 (ofa_o (ota_wd k3 (fun a ha => ?_)))
    simp only [List.mem_cons, List.not_mem_nil, or_false] at ha ⊢
    omega
end Adv2
