/-! ===== nights: both alike ===== -/
section Nights
variable {c1 c8 c10 c11 c12 : Cl} {B B2 : Nat} {R D H Q M L E : Nat} {K : Nat → Nat}
def px (i : Nat) : Int32 := nI i + (-1)
theorem px_s (i : Nat) : px (i + 1) = nI i := pk_m1 i
theorem lp294a {h : Nat} {c : Cl} (hR : cA c 20 B2 0 = nI R) (r6 : R ≤ 6) (hH : cA c 20 B2 2 = nI H) (h6 : H ≤ 6) (hD : cA c 20 B2 1 = nI D) (d10 : D ≤ 10) (hh : h < H) : ∀ m i, i + m = R → G_294 B2 0 [nI h, nI (cb (cg (cA c 20 B2) H D h) i), nI i] [] [] c = G_294 B2 1 [nI h, nI (cb (cg (cA c 20 B2) H D h) R)] [] [] c
  | 0, i, hi => by
    have : i = R := by omega
    subst this
    conv => lhs; rw [G_294]
    rw [al_0]
    show (if cA c 20 B2 0 ≤ nI i then _ else _) = _
    rw [if_pos (by rw [hR]; exact nI_le (Nat.le_refl _) (by omega))]
  | m + 1, i, hi => by
    have ih := lp294a hR r6 hH h6 hD d10 hh m (i + 1) (by omega)
    have f221 : F_221 c B2 (nI h) = some 1 := by
      rw [show F_221 c B2 (nI h) = some (is1 H (nI h)) from is_2 (k := 2) (by decide) hH]
      unfold is1; rw [if_neg (nI_pos (by omega)), if_neg (nI_ge hh (by omega))]
    rw [← ih]
    conv => lhs; rw [G_294]
    rw [al_0]
    show (if cA c 20 B2 0 ≤ nI i then _ else _) = _
    rw [if_neg (by rw [hR]; exact nI_ge (by omega) (by omega)), f221]
    show (F_241 c B2 (nI h) (nI i) >>= fun r7 => ((if r7 = 0 then some 0 else some 1) : Option (Int32)) >>= fun (t8 : Int32) => G_294 B2 0 [nI h, nI (cb (cg (cA c 20 B2) H D h) i) + t8, nI i + 1] [] [] c) = _
    rw [f_241 (by omega) (by omega) hH h6 hD d10, nI_1]
    show (((if cg (cA c 20 B2) H D h i = 0 then some 0 else some 1) : Option (Int32)) >>= fun (t8 : Int32) => G_294 B2 0 [nI h, nI (cb (cg (cA c 20 B2) H D h) i) + t8, nI (i + 1)] [] [] c) = G_294 B2 0 [nI h, nI (cb (cg (cA c 20 B2) H D h) i + (if cg (cA c 20 B2) H D h i = 0 then 0 else 1)), nI (i + 1)] [] [] c
    by_cases q : cg (cA c 20 B2) H D h i = 0
    · rw [if_pos q, if_pos q]
      show G_294 B2 0 [nI h, nI (cb (cg (cA c 20 B2) H D h) i) + 0, nI (i + 1)] [] [] c = _
      rw [Int32.add_zero]; rfl
    · rw [if_neg q, if_neg q]
      show G_294 B2 0 [nI h, nI (cb (cg (cA c 20 B2) H D h) i) + 1, nI (i + 1)] [] [] c = _
      rw [nI_1]
theorem lp294b {h r k : Nat} {c : Cl} (hH : cA c 20 B2 2 = nI H) (h6 : H ≤ 6) (hD : cA c 20 B2 1 = nI D) (d10 : D ≤ 10) (hh : h < H) (r6 : R ≤ 6) (hr : r < R) (hcan : ¬ cg (cA c 20 B2) H D h r = 0) (hk : cb (cg (cA c 20 B2) H D h) r = k) : ∀ i, i ≤ R → G_294 B2 2 [nI h, nI (cb (cg (cA c 20 B2) H D h) i), nI k, (if i ≤ r then nI r else -1), px i] [] [] c = G_294 B2 3 [nI h, nI r] [] [] c
  | 0, hi => by
    rw [if_pos (Nat.zero_le _)]
    conv => lhs; rw [G_294]
    rw [if_pos (show px 0 < 0 by decide)]
  | i + 1, hi => by
    have ih := lp294b hH h6 hD d10 hh r6 hr hcan hk i (by omega)
    have cl := cb_le (cg (cA c 20 B2) H D h) (i + 1)
    conv => lhs; rw [G_294]
    rw [px_s, if_neg (nI_pos (by omega))]
    by_cases z : cb (cg (cA c 20 B2) H D h) (i + 1) = 0
    · have : i + 1 ≤ r := Nat.le_of_not_lt fun q => by have := cb_lt (cg (cA c 20 B2) H D h) q hcan; omega
      rw [z, if_pos (by decide), if_pos this]
    · rw [if_neg (nI_nle (by omega) (by omega))]
      show (F_241 c B2 (nI h) (nI i) >>= fun r18 => if r18 = 0 then G_294 B2 2 [nI h, nI (cb (cg (cA c 20 B2) H D h) (i + 1)), nI k, (if i + 1 ≤ r then nI r else -1), nI i + (-1)] [] [] c else ((if (nI (cb (cg (cA c 20 B2) H D h) (i + 1)) + (-1)) = nI k then some (nI i) else some (if i + 1 ≤ r then nI r else -1)) : Option (Int32)) >>= fun (t20 : Int32) => G_294 B2 2 [nI h, nI (cb (cg (cA c 20 B2) H D h) (i + 1)) + (-1), nI k, t20, nI i + (-1)] [] [] c) = _
      rw [f_241 (by omega) (by omega) hH h6 hD d10]
      show (if cg (cA c 20 B2) H D h i = 0 then _ else _) = _
      by_cases q : cg (cA c 20 B2) H D h i = 0
      · rw [if_pos q]
        have e1 : cb (cg (cA c 20 B2) H D h) (i + 1) = cb (cg (cA c 20 B2) H D h) i := by show cb (cg (cA c 20 B2) H D h) i + (if cg (cA c 20 B2) H D h i = 0 then 0 else 1) = _; rw [if_pos q]; rfl
        have e2 : (if i + 1 ≤ r then nI r else -1) = (if i ≤ r then nI r else (-1 : Int32)) := by
          by_cases y : i ≤ r
          · rw [if_pos y, if_pos (show i + 1 ≤ r from Nat.lt_of_le_of_ne y (fun e => hcan (e ▸ q)))]
          · rw [if_neg y, if_neg (by omega)]
        rw [e1, e2]
        exact ih
      · rw [if_neg q]
        have e1 : cb (cg (cA c 20 B2) H D h) (i + 1) = cb (cg (cA c 20 B2) H D h) i + 1 := by show cb (cg (cA c 20 B2) H D h) i + (if cg (cA c 20 B2) H D h i = 0 then 0 else 1) = _; rw [if_neg q]
        rw [e1, pk_m1]
        have ci := cb_le (cg (cA c 20 B2) H D h) i
        have cr := cb_le (cg (cA c 20 B2) H D h) r
        by_cases y : i = r
        · subst y
          rw [if_pos (by rw [hk])]
          show G_294 B2 2 [nI h, nI (cb (cg (cA c 20 B2) H D h) i), nI k, nI i, nI i + (-1)] [] [] c = _
          rw [if_pos (Nat.le_refl _)] at ih
          exact ih
        · have ne : ¬ nI (cb (cg (cA c 20 B2) H D h) i) = nI k := fun e => by
            have e' := (nI_eq (by omega) (by omega)).mp e
            rcases Nat.lt_or_gt_of_ne y with g | g
            · have := cb_lt (cg (cA c 20 B2) H D h) g q; omega
            · have := cb_lt (cg (cA c 20 B2) H D h) g hcan; omega
          rw [if_neg ne]
          have e2 : (if i + 1 ≤ r then nI r else -1) = (if i ≤ r then nI r else (-1 : Int32)) := by
            by_cases y2 : i ≤ r
            · rw [if_pos y2, if_pos (by omega)]
            · rw [if_neg y2, if_neg (by omega)]
          show G_294 B2 2 [nI h, nI (cb (cg (cA c 20 B2) H D h) i), nI k, (if i + 1 ≤ r then nI r else -1), nI i + (-1)] [] [] c = _
          rw [e2]
          exact ih
theorem f_311 {c11 : Cl} {B n k : Nat} (h : cJ c11 10 B = lN n) (hn : n < 2147483648) (k0 : 0 < k) (k1 : k < 100) : F_311 c11 B (nI k) = some (nI (nx n / 65536 % k), sJ c11 10 B (lN (nx n))) := by
  have l := nx_lt n
  unfold F_311
  exact ob_mk (f_167 h hn) (ob_mk (v := nI (nx n / 65536 % k)) (in_neg (nI_nle k0 (by omega)) (ob_mk (irm_ok (by omega) k0 (by omega)) rfl)) rfl)
/-- what a minute drawn leaves -/
def DmP (c1 c8 c11 c12 : Cl) (B B2 R D H Q L : Nat) (K : Nat → Nat) (M : Nat) (x : Int32 × Cl × Cl) (m : Int32 × Cl) : Prop := x.1 = m.1 ∧ Oth (cR c11 9 B) c8 x.2.1 ∧ Kp [10] c11 x.2.2 ∧ Kp [20, 46] c12 m.2 ∧ (∃ n, n < 2147483648 ∧ cJ x.2.2 10 B = lN n ∧ cJ m.2 46 B2 = lN n) ∧ cR x.2.1 0 (cR c11 9 B) = cR c8 0 (cR c11 9 B) ∧ (∃ E', SR c1 x.2.1 (cR c11 9 B) (cA m.2 20 B2) R D H Q (M + 1) L E' K) ∧ ∀ j, 184 ≤ j → cA m.2 20 B2 j = cA c12 20 B2 j
theorem dm_ok {n : Nat} (hS : SR c1 c8 (cR c11 9 B) (cA c12 20 B2) R D H Q M L E K) (hM : M + 1 < 20000) (h1 : cJ c11 10 B = lN n) (h2 : cJ c12 46 B2 = lN n) (hn : n < 2147483648) : ∃ x m, F_168 c1 c8 c11 B = some x ∧ F_294 c12 B2 = some m ∧ DmP c1 c8 c11 c12 B B2 R D H Q L K M x m := by
  obtain ⟨⟨hR1, hR, r6⟩, ⟨-, hD, d10⟩, ⟨hH1, hH, h6⟩, -, n13, n14, n15⟩ := id hS.1.1
  have l := nx_lt n
  have g1 := f_311 (k := H + 1) h1 hn (by omega) (by omega)
  have g2 := f_293 (k := H + 1) h2 hn (by omega) (by omega)
  obtain ⟨k, hk⟩ : ∃ k, k = nx n / 65536 % (H + 1) := ⟨_, rfl⟩
  have kl : k < H + 1 := by rw [hk]; exact Nat.mod_lt _ (by omega)
  rw [← hk] at g1 g2
  obtain ⟨c2, hc2⟩ : ∃ c2, c2 = sJ c12 46 B2 (lN (nx n)) := ⟨_, rfl⟩
  obtain ⟨d2, hd2⟩ : ∃ d2, d2 = sJ c11 10 B (lN (nx n)) := ⟨_, rfl⟩
  rw [← hc2] at g2
  rw [← hd2] at g1
  have k2 : Kp [20, 46] c12 c2 := by rw [hc2]; exact kp_J (by decide)
  have kd : Kp [10] c11 d2 := by rw [hd2]; exact kp_J (by decide)
  have S2 : cA c2 20 B2 = cA c12 20 B2 := by rw [hc2, cA_sJ]
  have J2 : cJ c2 46 B2 = lN (nx n) := by rw [hc2, cJ_sJ, if_pos ⟨rfl, rfl⟩]
  have J1 : cJ d2 10 B = lN (nx n) := by rw [hd2, cJ_sJ, if_pos ⟨rfl, rfl⟩]
  have R9 : cR d2 9 B = cR c11 9 B := by rw [hd2, cR_sJ]
  have T4 : mS (cA c12 20 B2) 4 = nI (M + 1) := by unfold mS; rw [pk_us, n14, nI_1]
  -- nobody goes
  have none1 : ∃ c', G_168 c1 c8 d2 B 0 [] [] [] = some (0, c', d2) ∧ Oth (cR c11 9 B) c8 c' ∧ cR c' 0 (cR c11 9 B) = cR c8 0 (cR c11 9 B) ∧ ∃ E', SR c1 c' (cR c11 9 B) (kp (mS (cA c12 20 B2)) H (112 + 6 * ((M + 1) % 12)) R) R D H Q (M + 1) L E' K := by
    obtain ⟨c', e1, e2, e3, e4⟩ := pass_none hS hM
    refine ⟨c', ?_, e2, e3, e4⟩
    unfold G_168
    rw [R9]
    exact ob_mk e1 rfl
  have tail0 : ∀ p : Int32, G_294 B2 3 [p, -1] [] [] c2 = some (0, sA c2 20 B2 (kp (mS (cA c12 20 B2)) H (112 + 6 * ((M + 1) % 12)) R)) := fun p => by
    rw [G_294]
    refine ob_mk (v := c2) (in_pos (by decide) rfl) (ob_mk (v := sA c2 20 B2 (mS (cA c12 20 B2))) (f_242.trans (by rw [S2]; rfl)) (ob_mk ((f_227 (R := R) (H := H) (M := M + 1) (by rw [cA_same, mS_un (by decide)]; exact hR) r6 (by rw [cA_same, mS_un (by decide)]; exact hH) h6 (by rw [cA_same]; exact T4) (by omega)).trans (by rw [cA_same, sA_sA])) (ob_mk (v := 0) (in_pos (by decide) rfl) rfl)))
  have tail0' : ∀ (p : Int32) (q x : Int32), q ≤ 0 → G_294 B2 2 [p, q, 0, -1, x] [] [] c2 = some (0, sA c2 20 B2 (kp (mS (cA c12 20 B2)) H (112 + 6 * ((M + 1) % 12)) R)) := fun p q x hq => by
    rw [G_294]
    by_cases y : x < 0
    · exact in_pos y (tail0 p)
    · exact in_neg y (in_pos hq (tail0 p))
  have tail1 : ∀ p : Int32, G_294 B2 1 [p, 0] [] [] c2 = some (0, sA c2 20 B2 (kp (mS (cA c12 20 B2)) H (112 + 6 * ((M + 1) % 12)) R)) := fun p => by
    rw [G_294]
    exact ob_mk (v := (0, c2)) (in_pos (by decide) rfl) (ob_mk al_0 (tail0' p 0 _ (by decide)))
  have post0 : ∀ c', (Oth (cR c11 9 B) c8 c' ∧ cR c' 0 (cR c11 9 B) = cR c8 0 (cR c11 9 B) ∧ ∃ E', SR c1 c' (cR c11 9 B) (kp (mS (cA c12 20 B2)) H (112 + 6 * ((M + 1) % 12)) R) R D H Q (M + 1) L E' K) → DmP c1 c8 c11 c12 B B2 R D H Q L K M (0, c', d2) (0, sA c2 20 B2 (kp (mS (cA c12 20 B2)) H (112 + 6 * ((M + 1) % 12)) R)) := fun c' ⟨e2, e3, e4⟩ => by
    refine ⟨rfl, e2, kd, kp_tr k2 (kp_A (by decide)), ⟨nx n, l, J1, J2⟩, e3, by dsimp only; rw [cA_same]; exact e4, fun j q => ?_⟩
    have := Nat.mod_lt (M + 1) (show 0 < 12 by decide)
    dsimp only
    rw [cA_same, kp_out (by omega), mS_un (by omega)]
  obtain ⟨c', e1, e2⟩ := none1
  unfold F_168 F_294
  rw [hH1, nI_1]
  by_cases q : k = H
  · refine ⟨(0, c', d2), _, ob_mk g1 (in_pos (by rw [q]; exact nI_le (Nat.le_refl _) (by omega)) e1), ob_mk al_2 ?_, post0 c' e2⟩
    rw [hH, nI_1]
    refine ob_mk g2 ?_
    dsimp only
    rw [G_294]
    refine ob_mk al_0 ?_
    rw [S2, hR]
    by_cases y : nI R ≤ 0
    · exact in_pos y (tail1 _)
    · refine in_neg y (ob_mk (v := 0) ?_ (in_pos rfl (tail1 _)))
      rw [show F_221 c2 B2 (nI k) = some (is1 H (nI k)) from is_2 (k := 2) (by decide) (by rw [S2]; exact hH)]
      unfold is1; rw [if_neg (nI_pos (by omega)), if_pos (by rw [q]; exact nI_le (Nat.le_refl _) (by omega))]
  have kH : k < H := by omega
  have lpa := lp294a (c := c2) (B2 := B2) (by rw [S2]; exact hR) r6 (by rw [S2]; exact hH) h6 (by rw [S2]; exact hD) d10 kH R 0 (by omega)
  have f83 := f_83 (c8 := c8) kH h6 hS.1.2.1
  have f101 := f_101 kH hS
  have mlt := msk_lt (cg (cA c12 20 B2) H D k) R
  have l6 : (2 : Nat) ^ R ≤ 2 ^ 6 := Nat.pow_le_pow_right (by decide) (by omega)
  have f300 := f_300 ⟨msk (cg (cA c12 20 B2) H D k) R, by omega⟩
  dsimp only at f300
  rw [pop_cb _ r6] at f300
  have cbl := cb_le (cg (cA c12 20 B2) H D k) R
  rw [S2] at lpa
  have irn : ¬ nI H ≤ nI k := nI_ge kH (by omega)
  by_cases w : cb (cg (cA c12 20 B2) H D k) R = 0
  · refine ⟨(0, c', d2), _, ob_mk g1 (in_neg irn ?_), ob_mk al_2 ?_, post0 c' e2⟩
    · dsimp only
      rw [R9]
      refine ob_mk f83 ?_
      by_cases y : lv (cA c12 20 B2) k = 0
      · exact in_pos y e1
      · exact in_neg y (ob_mk f101 (ob_mk f300 (in_pos (by rw [w]; decide) e1)))
    · rw [hH, nI_1]
      refine ob_mk g2 ?_
      refine lpa.trans ?_
      rw [w]
      exact tail1 _
  · have lvk : ¬ lv (cA c12 20 B2) k = 0 := fun z => by
      have key : ∀ n, cb (cg (cA c12 20 B2) H D k) n = 0 := fun n => by
        induction n with
        | zero => rfl
        | succ n ih =>
          show cb (cg (cA c12 20 B2) H D k) n + (if cg (cA c12 20 B2) H D k n = 0 then 0 else 1) = 0
          rw [ih, if_pos (by unfold cg; rw [if_pos z])]
      exact w (key R)
    have l2 := nx_lt (nx n)
    obtain ⟨i, hi⟩ : ∃ i, i = nx (nx n) / 65536 % cb (cg (cA c12 20 B2) H D k) R := ⟨_, rfl⟩
    have il : i < cb (cg (cA c12 20 B2) H D k) R := by rw [hi]; exact Nat.mod_lt _ (by omega)
    have g3 := f_311 (k := cb (cg (cA c12 20 B2) H D k) R) J1 l (by omega) (by omega)
    have g4 := f_293 (k := cb (cg (cA c12 20 B2) H D k) R) J2 l (by omega) (by omega)
    rw [← hi] at g3 g4
    obtain ⟨r, hr, s1, s2, s3⟩ := f_102 kH hS il
    obtain ⟨cp, p1, p2, p3, p4⟩ := pass_head (b := 0) hS hM kH hr
    have eT : gS (bE 0 (cA c12 20 B2) k) k (nI r) = mS (gS (cA c12 20 B2) k (nI r)) := by rw [gS_bE (by omega), if_pos rfl]
    rw [eT] at p4
    have T4' : mS (gS (cA c12 20 B2) k (nI r)) 4 = nI (M + 1) := by unfold mS; rw [pk_us, gS_un (by omega) (by omega) (by omega) (by omega), n14, nI_1]
    have T0 : ∀ j, j ≠ 4 → j ≠ 5 → (j < 40 ∨ 112 ≤ j) → mS (gS (cA c12 20 B2) k (nI r)) j = cA c12 20 B2 j := fun j y1 y2 y3 => by rw [mS_un y1, gS_un (by omega) (by omega) (by omega) (by omega)]
    obtain ⟨c3, hc3⟩ : ∃ c3, c3 = sJ c2 46 B2 (lN (nx (nx n))) := ⟨_, rfl⟩
    rw [← hc3] at g4
    have S3 : cA c3 20 B2 = cA c12 20 B2 := by rw [hc3, cA_sJ, S2]
    have k3 : Kp [20, 46] c12 c3 := by rw [hc3]; exact kp_tr k2 (kp_J (by decide))
    have lpb := lp294b (c := c3) (B2 := B2) (H := H) (D := D) (R := R) (h := k) (r := r) (k := i) (by rw [S3]; exact hH) h6 (by rw [S3]; exact hD) d10 kH r6 hr (by rw [S3]; exact s2) (by rw [S3]; exact s3) R (Nat.le_refl _)
    rw [S3, if_neg (by omega)] at lpb
    refine ⟨(1, cp, sJ d2 10 B (lN (nx (nx n)))), (1, sA c3 20 B2 (kp (mS (gS (cA c12 20 B2) k (nI r))) H (112 + 6 * ((M + 1) % 12)) R)), ob_mk g1 (in_neg irn ?_), ob_mk al_2 ?_, rfl, p2, kp_tr kd (kp_J (by decide)), kp_tr k3 (kp_A (by decide)), ⟨nx (nx n), l2, by dsimp only; rw [cJ_sJ, if_pos ⟨rfl, rfl⟩], by dsimp only; rw [cJ_sA, hc3, cJ_sJ, if_pos ⟨rfl, rfl⟩]⟩, p3, by dsimp only; rw [cA_same]; exact p4, fun j q => ?_⟩
    · dsimp only
      rw [R9]
      refine ob_mk f83 (in_neg lvk (ob_mk f101 (ob_mk f300 (in_neg (nI_nle (by omega) (by omega)) (ob_mk g3 (ob_mk s1 (ob_mk p1 rfl)))))))
    · rw [hH, nI_1]
      refine ob_mk g2 ?_
      refine lpa.trans ?_
      rw [G_294]
      refine ob_mk (v := (nI i, c3)) (in_neg (nI_nle (by omega) (by omega)) (ob_mk g4 rfl)) (ob_mk al_0 ?_)
      dsimp only
      rw [S3, hR, show nI R - 1 = px R from Int32.sub_eq_add_neg _ _]
      refine lpb.trans ?_
      rw [G_294]
      refine ob_mk (v := sA c3 20 B2 (gS (cA c12 20 B2) k (nI r))) (in_neg (nI_pos (by omega)) (ob_mk (v := sA c3 20 B2 (gS (cA c12 20 B2) k (nI r))) ((f_244 (by omega)).trans (by rw [S3]; rfl)) rfl)) (ob_mk (v := sA c3 20 B2 (mS (gS (cA c12 20 B2) k (nI r)))) (f_242.trans (by rw [cA_same, sA_sA]; rfl)) (ob_mk ((f_227 (R := R) (H := H) (M := M + 1) (by rw [cA_same, T0 0 (by decide) (by decide) (by decide)]; exact hR) r6 (by rw [cA_same, T0 2 (by decide) (by decide) (by decide)]; exact hH) h6 (by rw [cA_same]; exact T4') (by omega)).trans (by rw [cA_same, sA_sA])) (ob_mk (v := 1) (in_neg (nI_pos (by omega)) rfl) rfl)))
    · have := Nat.mod_lt (M + 1) (show 0 < 12 by decide)
      dsimp only
      rw [cA_same, kp_out (by omega), T0 j (by omega) (by omega) (by omega)]
end Nights
