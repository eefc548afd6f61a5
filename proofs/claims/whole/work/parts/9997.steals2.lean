/-! ===== theft: both alike ===== -/
section Steals2
variable {c0 c1 c6 c8 c10 c11 c12 c13 : Cl} {d : Ad} {sc st cr B B2 : Nat} {S : Nat → Int32} {A : Nat → Nat} {X R D H Q M L E : Nat} {K : Nat → Nat} {mo aim P Pq P' Pq' Z Z' : Nat}
theorem tst_c {k : Nat} (h : ¬ (k < tn (tst S R D H Q mo aim k) ∧ te (tst S R D H Q mo aim k) = 0)) : ∀ m, tst S R D H Q mo aim (k + m) = tst S R D H Q mo aim k
  | 0 => rfl
  | m + 1 => by
    have ih := tst_c h m
    show (if k + m < tn (tst S R D H Q mo aim (k + m)) ∧ te (tst S R D H Q mo aim (k + m)) = 0 then _ else tst S R D H Q mo aim (k + m)) = _
    rw [ih, if_neg (fun z => h ⟨by omega, z.2⟩)]
theorem tm_le (hR : 0 < R) (hq : Qok S R H (q0 S)) : ∀ k j, j < tn (tst S R D H Q mo aim k) → tm (tst S R D H Q mo aim k) (tu (tst S R D H Q mo aim k) j) ≤ k
  | 0, j, hj => Nat.le_refl _
  | k + 1, j, hj => by
    by_cases w : k < tn (tst S R D H Q mo aim k) ∧ te (tst S R D H Q mo aim k) = 0
    · have hx := (tst_ok (D := D) (Q := Q) (mo := mo) (aim := aim) hR hq k).2 w
      by_cases z : j < tn (tst S R D H Q mo aim k)
      · rw [hx.2.1 j z, (hx.2.2.1 j z).2]
        have := tm_le hR hq k j z
        omega
      · rw [hx.2.2.2 j (by omega) hj]
        have := tm_le hR hq k k w.1
        omega
    · have e := tst_c w 1
      rw [e] at hj ⊢
      have := tm_le hR hq k j hj
      omega
def OutT (B2 : Nat) (a1 a2 : Int32) (r : Int32 × Cl) : Prop := (a2 < 0 ∧ r.1 = a2) ∨ (¬ a2 < 0 ∧ ∃ v, v ≤ 1000 ∧ r.1 = nI v ∧ cA r.2 35 B2 v = a2 ∧ cA r.2 36 B2 v = a1)
theorem gl_282a {cz : Cl} (hS : SR c1 c8 st S R D H Q M L E K) (hR0 : 0 < R) (hm : mo < H) (hml : ¬ lv S mo = 0) (ham : aim < R) (eS : cA cz 20 B2 = S) (hP : Pw cz B2) {k : Nat} (h4 : (te (tst S R D H Q mo aim k) = 0 ∧ tn (tst S R D H Q mo aim k) ≤ k ∧ cI c0 2 cr = -2) ∨ (k < tn (tst S R D H Q mo aim k) ∧ te (tst S R D H Q mo aim k) = 0 ∧ te (tst S R D H Q mo aim (k + 1)) = 2 ∧ cI c0 2 cr = -3) ∨ (k < tn (tst S R D H Q mo aim k) ∧ te (tst S R D H Q mo aim k) = 0 ∧ te (tst S R D H Q mo aim (k + 1)) = 1 ∧ cI c0 2 cr = nI (tm (tst S R D H Q mo aim k) (tu (tst S R D H Q mo aim k) k) + 1) ∧ cI c0 1 cr = nI (tr0 (tst S R D H Q mo aim (k + 1))))) : ∀ (m j : Nat) (c' : Cl), j ≤ 1000 → j + m = k → te (tst S R D H Q mo aim j) = 0 → RT c' B2 S R H (tst S R D H Q mo aim j) → Kp [24, 32, 33, 34, 35, 36, 37, 38, 39] cz c' → Rn (G_282 B2 1 [nI mo, nI aim, nI (tn (tst S R D H Q mo aim j)), nI j] [] [] c') (fun r => Kp [24, 32, 33, 34, 35, 36, 37, 38, 39] cz r.2 ∧ OutT B2 (cI c0 1 cr) (cI c0 2 cr) r) := fun m j c' => by
  have r6 := hS.1.1.1.2.2
  have h6 := hS.1.1.2.2.1.2.2
  have hq0 : Qok S R H (q0 S) := q0_ok hS
  have k0 : te (tst S R D H Q mo aim k) = 0 := by rcases h4 with h | h | h; exact h.1; exact h.2.1; exact h.2.1
  induction m generalizing j c' with
  | zero =>
    intro j1000 hj h0 hT hK
    have : j = k := by omega
    subst this
    have hTI := (tst_ok (D := D) (Q := Q) (mo := mo) (aim := aim) hR0 hq0 j).1
    have nx := hTI.2.1.2
    by_cases w : j < tn (tst S R D H Q mo aim j)
    · have ww : j < tn (tst S R D H Q mo aim j) ∧ te (tst S R D H Q mo aim j) = 0 := ⟨w, h0⟩
      have hF := FX_fo (D := D) (mo := mo) (aim := aim) (mi := tm (tst S R D H Q mo aim j) (tu (tst S R D H Q mo aim j) j)) hR0 hTI (hTI.2.2.2 j w) w (show tk (tst S R D H Q mo aim j) (tu (tst S R D H Q mo aim j) j) - 1 ≤ 2 * j by have := hTI.2.2.1 j w; omega)
      have et := tst_s ww
      obtain ⟨fx, hfx⟩ : ∃ fx, fx = fo S R D H (qs S R H (tu (tst S R D H Q mo aim j) j)) true mo aim enT (lfT S R H Q mo aim (tk (tst S R D H Q mo aim j) (tu (tst S R D H Q mo aim j) j) - 1) (tm (tst S R D H Q mo aim j) (tu (tst S R D H Q mo aim j) j)) (qs S R H (tu (tst S R D H Q mo aim j) j))) (tst S R D H Q mo aim j) := ⟨_, rfl⟩
      rw [← hfx] at hF et
      rw [G_282]
      refine rn_n (nI_ge w (by omega)) (rn_e (v := nI (ph S R H (tu (tst S R D H Q mo aim j) j))) ((ald_ok (by omega) (by decide)).trans (by rw [(hT.1 j w).1])) ?_)
      refine rn_b (f_280 (s := tu (tst S R D H Q mo aim j) j) (c := c') (B2 := B2) hS hR0 (by rw [(hK 20 (by decide)).2.2.2.1]; exact eS) (fun h hh => by rw [(hK 25 (by decide)).2.2.2.1]; exact hP h hh)) (fun r ⟨kr', n, hn, g, g1, g2⟩ => ?_)
      have kz : Kp [24, 32, 33, 34, 35, 36, 37, 38, 39] cz r := kp_tr hK (kp_wd kr' (by decide))
      have e0 : fx 0 = tst S R D H Q mo aim j := hF.1
      have hT' : RT r B2 S R H (fx 0) := by
        rw [e0]
        exact ⟨fun i hi => by rw [(kr' 34 (by decide)).2.2.2.1, (kr' 35 (by decide)).2.2.2.1, (kr' 36 (by decide)).2.2.2.1]; exact hT.1 i hi, fun t ht => by rw [(kr' 37 (by decide)).2.2.2.1]; exact hT.2 t ht⟩
      have g' := gl_282b (B2 := B2) (cz := r) (Po := fun r => Kp [24, 32, 33, 34, 35, 36, 37, 38, 39] cz r.2 ∧ OutT B2 (cI c0 1 cr) (cI c0 2 cr) r) hS hR0 hm hml ham (fun h hh => by rw [(kz 25 (by decide)).2.2.2.1]; exact hP h hh) hF w (hTI.1.1 j w).1 rfl rfl hn g1 g2 (fun c2 b1 b2 b3 => by
        exfalso
        rw [← et] at b2
        rcases h4 with h | h | h
        · omega
        · rw [h.2.2.1] at b2; exact absurd b2 (by decide)
        · rw [h.2.2.1] at b2; exact absurd b2 (by decide)) (fun c2 v b1 b2 b3 b4 b5 => by
        rw [← et] at b2 b5
        rcases h4 with h | h | h
        · omega
        · rw [h.2.2.1] at b2; exact absurd b2 (by decide)
        · refine ⟨kp_tr kz (kp_wd b1 (by decide)), Or.inr ⟨?_, v, b3, rfl, by rw [b4, h.2.2.2.1], by rw [b5, h.2.2.2.2]⟩⟩
          rw [h.2.2.2.1]
          have := tm_le (D := D) (Q := Q) (mo := mo) (aim := aim) hR0 hq0 j j w
          exact nI_pos (by omega)) (fun c2 b1 b2 => by
        rw [← et] at b2
        rcases h4 with h | h | h
        · omega
        · exact ⟨kp_tr kz (kp_wd b1 (by decide)), Or.inl ⟨by rw [h.2.2.2]; decide, h.2.2.2.symm⟩⟩
        · rw [h.2.2.1] at b2; exact absurd b2 (by decide)) n 0 0 r (by omega) (Nat.zero_le _) (fun t ht _ => ⟨fun z => absurd z (Nat.not_lt_zero _), fun ⟨_, z, _⟩ => absurd z (Nat.not_lt_zero _)⟩) (by rw [e0]; exact h0) hT' (kp_rf _ _)
      rw [e0] at g'
      exact g'
    · rw [G_282]
      refine rn_p (nI_le (by omega) (by omega)) (rn_r ⟨hK, Or.inl ?_⟩)
      rcases h4 with h | h | h
      · exact ⟨by rw [h.2.2]; decide, h.2.2.symm⟩
      · omega
      · omega
  | succ m ih =>
    intro j1000 hj h0 hT hK
    have hTI := (tst_ok (D := D) (Q := Q) (mo := mo) (aim := aim) hR0 hq0 j).1
    have nx := hTI.2.1.2
    by_cases w : j < tn (tst S R D H Q mo aim j)
    · have ww : j < tn (tst S R D H Q mo aim j) ∧ te (tst S R D H Q mo aim j) = 0 := ⟨w, h0⟩
      have hF := FX_fo (D := D) (mo := mo) (aim := aim) (mi := tm (tst S R D H Q mo aim j) (tu (tst S R D H Q mo aim j) j)) hR0 hTI (hTI.2.2.2 j w) w (show tk (tst S R D H Q mo aim j) (tu (tst S R D H Q mo aim j) j) - 1 ≤ 2 * j by have := hTI.2.2.1 j w; omega)
      have et := tst_s ww
      obtain ⟨fx, hfx⟩ : ∃ fx, fx = fo S R D H (qs S R H (tu (tst S R D H Q mo aim j) j)) true mo aim enT (lfT S R H Q mo aim (tk (tst S R D H Q mo aim j) (tu (tst S R D H Q mo aim j) j) - 1) (tm (tst S R D H Q mo aim j) (tu (tst S R D H Q mo aim j) j)) (qs S R H (tu (tst S R D H Q mo aim j) j))) (tst S R D H Q mo aim j) := ⟨_, rfl⟩
      rw [← hfx] at hF et
      have bad : te (tst S R D H Q mo aim (j + 1)) ≠ 0 → False := fun z => by
        have := tst_c (k := j + 1) (fun y => z y.2) m
        rw [show j + 1 + m = k by omega] at this
        rw [this] at k0
        exact z k0
      rw [G_282]
      refine rn_n (nI_ge w (by omega)) (rn_e (v := nI (ph S R H (tu (tst S R D H Q mo aim j) j))) ((ald_ok (by omega) (by decide)).trans (by rw [(hT.1 j w).1])) ?_)
      refine rn_b (f_280 (s := tu (tst S R D H Q mo aim j) j) (c := c') (B2 := B2) hS hR0 (by rw [(hK 20 (by decide)).2.2.2.1]; exact eS) (fun h hh => by rw [(hK 25 (by decide)).2.2.2.1]; exact hP h hh)) (fun r ⟨kr', n, hn, g, g1, g2⟩ => ?_)
      have kz : Kp [24, 32, 33, 34, 35, 36, 37, 38, 39] cz r := kp_tr hK (kp_wd kr' (by decide))
      have e0 : fx 0 = tst S R D H Q mo aim j := hF.1
      have hT' : RT r B2 S R H (fx 0) := by
        rw [e0]
        exact ⟨fun i hi => by rw [(kr' 34 (by decide)).2.2.2.1, (kr' 35 (by decide)).2.2.2.1, (kr' 36 (by decide)).2.2.2.1]; exact hT.1 i hi, fun t ht => by rw [(kr' 37 (by decide)).2.2.2.1]; exact hT.2 t ht⟩
      have g' := gl_282b (B2 := B2) (cz := r) (Po := fun r => Kp [24, 32, 33, 34, 35, 36, 37, 38, 39] cz r.2 ∧ OutT B2 (cI c0 1 cr) (cI c0 2 cr) r) hS hR0 hm hml ham (fun h hh => by rw [(kz 25 (by decide)).2.2.2.1]; exact hP h hh) hF w (hTI.1.1 j w).1 rfl rfl hn g1 g2 (fun c2 b1 b2 b3 => by
        rw [← et] at b2 b3 ⊢
        exact ih (j + 1) c2 (by omega) (by omega) b2 b3 (kp_tr kz (kp_wd b1 (by decide)))) (fun c2 v b1 b2 b3 b4 b5 => by
        rw [← et] at b2
        exact (bad (by rw [b2]; decide)).elim) (fun c2 b1 b2 => by
        rw [← et] at b2
        exact (bad (by rw [b2]; decide)).elim) n 0 0 r (by omega) (Nat.zero_le _) (fun t ht _ => ⟨fun z => absurd z (Nat.not_lt_zero _), fun ⟨_, z, _⟩ => absurd z (Nat.not_lt_zero _)⟩) (by rw [e0]; exact h0) hT' (kp_rf _ _)
      rw [e0] at g'
      exact g'
    · have e := tst_c (k := j) (fun y => w y.1) (m + 1)
      rw [show j + (m + 1) = k by omega] at e
      rw [G_282]
      refine rn_p (nI_le (by omega) (by omega)) (rn_r ⟨hK, Or.inl ?_⟩)
      rcases h4 with h | h | h
      · exact ⟨by rw [h.2.2]; decide, h.2.2.symm⟩
      · have := h.1; rw [e] at this; omega
      · have := h.1; rw [e] at this; omega
theorem gl_282 {cz : Cl} {Po : Int32 × Cl → Prop} (ks : ∀ c', Kp [37] cz c' → (∀ c, c < 46656 → cA c' 37 B2 c = 0) → Rn (G_282 B2 0 [nI mo, nI aim, nI 46656] [] [] c') Po) : ∀ (m i : Nat) (c' : Cl), i + m = 46656 → Kp [37] cz c' → (∀ c, c < i → cA c' 37 B2 c = 0) → Rn (G_282 B2 0 [nI mo, nI aim, nI i] [] [] c') Po
  | 0, i, c', hi, hK, h => by
    have : i = 46656 := by omega
    subst this
    exact ks c' hK h
  | m + 1, i, c', hi, hK, h => by
    rw [G_282]
    refine rn_n (show ¬ nI 46656 ≤ nI i from nI_ge (by omega) (by omega)) (rn_st (by omega) (by decide) ?_)
    rw [nI_1]
    refine gl_282 ks m (i + 1) _ (by omega) (kp_tr hK (kp_A (by decide))) (fun c hc => ?_)
    rw [cA_same]
    by_cases w : c = i
    · rw [w, pk_us]; rfl
    · rw [pk_un w]; exact h c (by omega)
theorem f_282 {cz : Cl} (hS : SR c1 c8 st S R D H Q M L E K) (hR0 : 0 < R) (hm : mo < H) (hml : ¬ lv S mo = 0) (ham : aim < R) (eS : cA cz 20 B2 = S) (hP : Pw cz B2) (h4 : (q0 S mo = aim ∧ cI c0 2 cr = 0 ∧ cI c0 1 cr = 0) ∨ (q0 S mo ≠ aim ∧ P4 cr S R D H Q mo aim c0)) : Rn (F_282 cz B2 (nI mo) (nI aim)) (fun r => Kp [24, 32, 33, 34, 35, 36, 37, 38, 39] cz r.2 ∧ OutT B2 (cI c0 1 cr) (cI c0 2 cr) r) := by
  have r6 := hS.1.1.1.2.2
  have h6 := hS.1.1.2.2.1.2.2
  have ql := q0_lt hS hm hml
  unfold F_282
  refine gl_282 (cz := cz) (fun c' hK hz => ?_) 46656 0 cz rfl (kp_rf _ _) (fun c hc => absurd hc (Nat.not_lt_zero _))
  have eS' : cA c' 20 B2 = S := by rw [(hK 20 (by decide)).2.2.2.1]; exact eS
  have f256 := f_256 (c12 := c') (B2 := B2) (by rw [eS']; exact hS) (pw_k hK (by decide) hP)
  have eph : cd 6 (qx (cA c' 20 B2) H (q0 (cA c' 20 B2))) 6 = ph S R H (kc S R H (q0 S)) := by rw [eS', ph_kc hR0 (q0_ok hS)]; rfl
  rw [eph] at f256
  have pl := ph_lt (S := S) (H := H) hR0 r6 (kc S R H (q0 S))
  rw [G_282]
  refine rn_p (by decide) (rn_e f256 (rn_st (i := 0) (by decide) (by decide) (rn_st (i := 0) (by decide) (by decide) (rn_st (i := 0) (by decide) (by decide) (rn_ld (i := 0) (by decide) (by decide) ?_)))))
  obtain ⟨d1, hd1⟩ : ∃ d1, d1 = sA c' 34 B2 (upd (cA c' 34 B2) 0 (nI (ph S R H (kc S R H (q0 S))))) := ⟨_, rfl⟩
  rw [← hd1]
  obtain ⟨d2, hd2⟩ : ∃ d2, d2 = sA d1 35 B2 (upd (cA d1 35 B2) 0 0) := ⟨_, rfl⟩
  rw [← hd2]
  obtain ⟨d3, hd3⟩ : ∃ d3, d3 = sA d2 36 B2 (upd (cA d2 36 B2) 0 0) := ⟨_, rfl⟩
  rw [← hd3]
  have k1 : Kp [34] c' d1 := by rw [hd1]; exact kp_A (by decide)
  have k2 : Kp [35] d1 d2 := by rw [hd2]; exact kp_A (by decide)
  have k3 : Kp [36] d2 d3 := by rw [hd3]; exact kp_A (by decide)
  have s34 : cA d3 34 B2 0 = nI (ph S R H (kc S R H (q0 S))) := by rw [(k3 34 (by decide)).2.2.2.1, (k2 34 (by decide)).2.2.2.1, hd1, cA_same, pk_us]
  have s35 : cA d3 35 B2 0 = 0 := by rw [(k3 35 (by decide)).2.2.2.1, hd2, cA_same, pk_us]
  have s36 : cA d3 36 B2 0 = 0 := by rw [hd3, cA_same, pk_us]
  have s37 : cA d3 37 B2 = cA c' 37 B2 := by rw [(k3 37 (by decide)).2.2.2.1, (k2 37 (by decide)).2.2.2.1, (k1 37 (by decide)).2.2.2.1]
  rw [s34]
  refine rn_st pl (by decide) ?_
  obtain ⟨d4, hd4⟩ : ∃ d4, d4 = sA d3 37 B2 (upd (cA d3 37 B2) (ph S R H (kc S R H (q0 S))) (vp_nar .boolean 1)) := ⟨_, rfl⟩
  rw [← hd4]
  have k4 : Kp [37] d3 d4 := by rw [hd4]; exact kp_A (by decide)
  have kk : Kp [24, 32, 33, 34, 35, 36, 37, 38, 39] cz d4 := kp_tr (kp_wd hK (by decide)) (kp_tr (kp_wd k1 (by decide)) (kp_tr (kp_wd k2 (by decide)) (kp_tr (kp_wd k3 (by decide)) (kp_wd k4 (by decide)))))
  have eS4 : cA d4 20 B2 = S := by rw [(kk 20 (by decide)).2.2.2.1]; exact eS
  refine rn_e (v := nI (q0 S mo)) ((f_223 (w := 0) (by omega) (by decide)).trans (by rw [eS4, q0_nI hS hm hml])) ?_
  rcases h4 with ⟨y, y2, y1⟩ | ⟨y, k, h4⟩
  · refine rn_p (by rw [y]) (rn_r ⟨kk, Or.inr ⟨by rw [y2]; decide, 0, by decide, rfl, ?_, ?_⟩⟩)
    · rw [y2, (k4 35 (by decide)).2.2.2.1, s35]
    · rw [y1, (k4 36 (by decide)).2.2.2.1, s36]
  · refine rn_n (fun z => y ((nI_eq (by omega) (by omega)).mp z)) ?_
    refine gl_282a (c0 := c0) (cr := cr) hS hR0 hm hml ham eS hP h4 k 0 d4 (by omega) (by omega) rfl ⟨fun j hj => ?_, fun t ht => ?_⟩ kk
    · have hj' : j < 1 := hj
      have : j = 0 := by omega
      subst this
      refine ⟨?_, ?_, ?_⟩
      · rw [(k4 34 (by decide)).2.2.2.1, s34]; rfl
      · rw [(k4 35 (by decide)).2.2.2.1, s35]; rfl
      · rw [(k4 36 (by decide)).2.2.2.1, s36]
        show (0 : Int32) = nI ((if kc S R H (q0 S) = kc S R H (q0 S) then 1 else 0) - 1)
        rw [if_pos rfl]; rfl
    · have tke : tk (tst S R D H Q mo aim 0) t = if t = kc S R H (q0 S) then 1 else 0 := rfl
      rw [hd4, cA_same, s37]
      by_cases z : t = kc S R H (q0 S)
      · rw [if_pos z] at tke
        rw [if_neg (by rw [tke]; decide), z, pk_us]; rfl
      · rw [if_neg z] at tke
        rw [if_pos tke, pk_un (fun w => z (ph_inj hR0 r6 h6 ht (kc_lt (q0_ok hS)) w))]
        exact hz _ (ph_lt hR0 r6 t)
theorem q_theft {p1 p2 p3 : Int32} (h : WM c1 c8 c10 c12 B2 (cR c11 7 B) A X R D H Q L K) (hP : Pw c12 B2) (ecr : cR c11 13 B = cr) (e0 : cR c0 0 cr = sc) (hr : Rows c6 d sc P Pq P' Pq' Z Z') (hz : ∀ s, s < Z → cB c13 0 P s = 0) (hz' : ∀ s, s < Z' → cB c13 0 P' s = 0) : ∃ rx rm, F_147 c0 c1 c6 c8 c10 c11 c13 d B p1 p2 p3 = some rx ∧ F_283 c12 B2 p1 p2 p3 = some rm ∧ rx.1 = rm.1 ∧ Kp [1, 2, 3, 4, 5, 6, 7, 8, 9, 10, 11] c0 rx.2.1 ∧ Oth cr c0 rx.2.1 ∧ Kp [0, 1, 2, 3, 4, 5, 6, 7, 8, 9, 10, 11, 12, 13, 14, 15] c6 rx.2.2.1 ∧ Oth sc c6 rx.2.2.1 ∧ RZt rx.2.2.1 rx.2.2.2.1 rx.2.2.2.2 sc d c13 [P, Pq, P', Pq'] Z Z' 2 ∧ Kp [24, 32, 33, 34, 35, 36, 37, 38, 39] c12 rm.2 := by
  obtain ⟨U, hU, hw⟩ := id h
  obtain ⟨a1, a2, a3, ⟨M, E, m9, s⟩, -⟩ := id hw
  have s' := s
  rw [← a1] at s'
  have hN := s'.1.1
  obtain ⟨⟨-, -, r6⟩, -, ⟨-, -, h6⟩, -⟩ := id hN
  have f1 := f_159 (c11 := c11) (B := B) (p := p1) hN s'.1.2.1
  have e1 : F_170 p3.toInt64 0 1 = some (if p3 < 0 then 0 else if 1 < p3 then 0 else 1) := f_170 p3 0 1
  have no : ∀ {x : Option (Int32 × Cl × Cl × Cl × Ad)} {y : Option (Int32 × Cl)}, x = some (-1, c0, c6, c13, d) → y = some (-1, c12) → ∃ rx rm, x = some rx ∧ y = some rm ∧ rx.1 = rm.1 ∧ Kp [1, 2, 3, 4, 5, 6, 7, 8, 9, 10, 11] c0 rx.2.1 ∧ Oth cr c0 rx.2.1 ∧ Kp [0, 1, 2, 3, 4, 5, 6, 7, 8, 9, 10, 11, 12, 13, 14, 15] c6 rx.2.2.1 ∧ Oth sc c6 rx.2.2.1 ∧ RZt rx.2.2.1 rx.2.2.2.1 rx.2.2.2.2 sc d c13 [P, Pq, P', Pq'] Z Z' 2 ∧ Kp [24, 32, 33, 34, 35, 36, 37, 38, 39] c12 rm.2 := fun hx hy => ⟨_, _, hx, hy, rfl, kp_rf _ _, oth_rf _ _, kp_rf _ _, oth_rf _ _, ⟨P, Pq, P', Pq', Z, Z', hr, hz, hz', rm_rf _ _, ms_rf _ _ _ _, ofa_rf _ _ _⟩, kp_rf _ _⟩
  unfold F_147 F_283
  rcases is1_of (n := H) (p := p1) (by omega) with q | ⟨q, mo, hm, rfl⟩
  · rw [if_pos q] at f1
    exact no (ob_mk f1 (in_pos rfl rfl)) (ob_mk (f_221 hN) (in_pos q rfl))
  have q0' : ¬ is1 H (nI mo) = 0 := by rw [q]; decide
  rw [if_neg q0', nI_clamp (by omega)] at f1
  by_cases v : lv (cA c12 20 B2) mo = 0
  · rw [if_pos v] at f1
    exact no (ob_mk f1 (in_pos rfl rfl)) (ob_mk (f_221 hN) (in_neg q0' (ob_mk (f_224 (by omega)) (in_pos v rfl))))
  rw [if_neg v] at f1
  rcases is1_of (n := R) (p := p2) (by omega) with z | ⟨z, aim, ham, rfl⟩
  · exact no (ob_mk f1 (in_neg (by decide) (ob_mk (f_160 hN) (in_pos z rfl)))) (ob_mk (f_221 hN) (in_neg q0' (ob_mk (f_224 (by omega)) (in_neg v (ob_mk (f_219 hN) (in_pos z rfl))))))
  have z0 : ¬ is1 R (nI aim) = 0 := by rw [z]; decide
  have hR0 : 0 < R := Nat.lt_of_le_of_lt (Nat.zero_le _) ham
  by_cases w1 : p3 < 0
  · rw [if_pos w1] at e1
    exact no (ob_mk f1 (in_neg (by decide) (ob_mk (f_160 hN) (in_neg z0 (in_pos w1 rfl))))) (ob_mk (f_221 hN) (in_neg q0' (ob_mk (f_224 (by omega)) (in_neg v (ob_mk (f_219 hN) (in_neg z0 (ob_mk e1 (in_pos rfl rfl))))))))
  rw [if_neg w1] at e1
  by_cases w2 : 1 < p3
  · rw [if_pos w2] at e1
    exact no (ob_mk f1 (in_neg (by decide) (ob_mk (f_160 hN) (in_neg z0 (in_neg w1 (in_neg (Int32.not_le.mpr w2) rfl)))))) (ob_mk (f_221 hN) (in_neg q0' (ob_mk (f_224 (by omega)) (in_neg v (ob_mk (f_219 hN) (in_neg z0 (ob_mk e1 (in_pos rfl rfl))))))))
  rw [if_neg w2] at e1
  obtain ⟨S, eS⟩ : ∃ S, S = cA c12 20 B2 := ⟨_, rfl⟩
  have v' := v
  rw [← eS] at s s' v
  obtain ⟨rx, x1, x2, x3, x4, x5, x6, x7⟩ := f_4 (c0 := c0) (c6 := c6) (c13 := c13) (d := d) (aim := aim) s' hR0 e0 hm v ham hr hz hz'
  obtain ⟨rm, m1, m2, m3⟩ := f_282 (c0 := rx.1) (cr := cr) (cz := c12) (B2 := B2) s hR0 hm v ham eS.symm hP x7
  have yx : ∀ (t : Int32), ((if p3 = 0 then some (cI rx.1 2 cr) else if 0 ≤ (cI rx.1 2 cr) then some (cI rx.1 1 cr) else some (cI rx.1 2 cr)) : Option Int32) = some t → (((if 0 ≤ rm.1 then if p3 = 0 then ald (cA rm.2 35 B2) 1001 rm.1 >>= fun v14 => some v14 else ald (cA rm.2 36 B2) 1001 rm.1 >>= fun v15 => some v15 else some rm.1) : Option Int32) = some t) → ∃ rx rm, F_147 c0 c1 c6 c8 c10 c11 c13 d B (nI mo) (nI aim) p3 = some rx ∧ F_283 c12 B2 (nI mo) (nI aim) p3 = some rm ∧ rx.1 = rm.1 ∧ Kp [1, 2, 3, 4, 5, 6, 7, 8, 9, 10, 11] c0 rx.2.1 ∧ Oth cr c0 rx.2.1 ∧ Kp [0, 1, 2, 3, 4, 5, 6, 7, 8, 9, 10, 11, 12, 13, 14, 15] c6 rx.2.2.1 ∧ Oth sc c6 rx.2.2.1 ∧ RZt rx.2.2.1 rx.2.2.2.1 rx.2.2.2.2 sc d c13 [P, Pq, P', Pq'] Z Z' 2 ∧ Kp [24, 32, 33, 34, 35, 36, 37, 38, 39] c12 rm.2 := fun t tx ty => by
    refine ⟨(t, rx.1, rx.2.1, rx.2.2.1, rx.2.2.2), (t, rm.2), ?_, ?_, rfl, x2, x3, x4, x5, x6, m2⟩
    · unfold F_147
      rw [ecr]
      exact ob_mk f1 (in_neg (by decide) (ob_mk (f_160 hN) (in_neg z0 (in_neg w1 (in_pos (Int32.not_lt.mp w2) (ob_mk x1 (ob_mk tx rfl)))))))
    · unfold F_283
      exact ob_mk (f_221 hN) (in_neg q0' (ob_mk (f_224 (by omega)) (in_neg v' (ob_mk (f_219 hN) (in_neg z0 (ob_mk e1 (in_neg (by decide) (ob_mk m1 (ob_mk ty rfl)))))))))
  show ∃ rx rm, F_147 c0 c1 c6 c8 c10 c11 c13 d B (nI mo) (nI aim) p3 = some rx ∧ F_283 c12 B2 (nI mo) (nI aim) p3 = some rm ∧ _
  rcases m3 with ⟨n1, n2⟩ | ⟨n1, u, u1, n2, n3, n4⟩
  · refine yx (cI rx.1 2 cr) ?_ (in_neg (by rw [n2]; exact Int32.not_le.mpr n1) (by rw [n2]))
    by_cases y : p3 = 0
    · exact in_pos y rfl
    · exact in_neg y (in_neg (Int32.not_le.mpr n1) rfl)
  · have p0 : (0 : Int32) ≤ rm.1 := by rw [n2]; exact Int32.not_lt.mp (nI_pos (by omega))
    by_cases y : p3 = 0
    · exact yx (cI rx.1 2 cr) (in_pos y rfl) (in_pos p0 (in_pos y (ob_mk (by rw [n2]; exact (ald_ok (by omega) (by decide)).trans (by rw [n3])) rfl)))
    · exact yx (cI rx.1 1 cr) (in_neg y (in_pos (Int32.not_lt.mp n1) rfl)) (in_pos p0 (in_neg y (ob_mk (by rw [n2]; exact (ald_ok (by omega) (by decide)).trans (by rw [n4])) rfl)))
end Steals2
