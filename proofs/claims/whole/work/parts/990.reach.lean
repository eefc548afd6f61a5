/-! ===== situations behind movings that fit: the class ===== -/
/-- rows with marks; what was there ahead -/
def RSt (c6 c13 : Cl) (d : Ad) (sc N : Nat) (f : Nat → Nat) (n : Nat) (d0 : Ad) (c0 : Cl) (L0 : List Nat) (Z0 Z0' k : Nat) : Prop := ∃ P Pq P' Pq' Z Z' u, Rows c6 d sc P Pq P' Pq' Z Z' ∧ N ≤ Z ∧ AQ c13 P Pq N Z f n u ∧ (∀ s, s < Z' → cB c13 0 P' s = 0) ∧ RM d0 L0 d [P, Pq, P', Pq'] ∧ Ms d0 Z0 Z0' d Z Z' k ∧ Ofa (aX d0) L0 c0 c13
/-- rows without -/
def RZt (c6 c13 : Cl) (d : Ad) (sc : Nat) (d0 : Ad) (c0 : Cl) (L0 : List Nat) (Z0 Z0' k : Nat) : Prop := ∃ P Pq P' Pq' Z Z', Rows c6 d sc P Pq P' Pq' Z Z' ∧ (∀ s, s < Z → cB c13 0 P s = 0) ∧ (∀ s, s < Z' → cB c13 0 P' s = 0) ∧ RM d0 L0 d [P, Pq, P', Pq'] ∧ Ms d0 Z0 Z0' d Z Z' k ∧ Ofa (aX d0) L0 c0 c13
theorem ms_wk {d d' : Ad} {Z Z' Y Y' k j : Nat} (h : Ms d Z Z' d' Y Y' k) (hk : k ≤ j) : Ms d Z Z' d' Y Y' j := ⟨by have := h.1; omega, h.2⟩
theorem rows_k {c6 c6' : Cl} {d : Ad} {sc P Pq P' Pq' Z Z' : Nat} {Ks : List Nat} (hK : Kp Ks c6 c6') (hn : ∀ k, k ∈ Ks → k < 12) (h : Rows c6 d sc P Pq P' Pq' Z Z') : Rows c6' d sc P Pq P' Pq' Z Z' := by
  have g : ∀ k, 12 ≤ k → k ∉ Ks := fun k a z => by have := hn k z; omega
  unfold Rows
  rw [(hK 12 (g 12 (by decide))).2.2.1, (hK 13 (g 13 (by decide))).2.2.1, (hK 14 (g 14 (by decide))).2.2.1, (hK 15 (g 15 (by decide))).2.2.1]
  exact h
section Reach
variable {c1 c6 c7 c8 c10 c13 : Cl} {d : Ad} {sc sr st w : Nat} {S : Nat → Int32} {R D H Q M L E : Nat} {K : Nat → Nat}
theorem rst_keep {d0 : Ad} {c0 : Cl} {L0 : List Nat} {Z0 Z0' kx n m0 k : Nat} {f : Nat → Nat} (hS : SR c1 c8 st S R D H Q M L E K) (hR0 : 0 < R) (k12 : k ≤ 12) (hT : TdR S Q k) (hc : TdC c10 w S k) (hC : SC c6 sc S R D H Q) (e7 : cR c7 0 sr = sc) (h : RSt c6 c13 d sc (R ^ lc S H) f n d0 c0 L0 Z0 Z0' kx) : Rn (F_69 c6 c7 c10 c13 d sr w (nI k) (nI m0) (nI n)) (fun r => Kp [10, 11] c6 r.2.1 ∧ Oth sc c6 r.2.1 ∧ ∃ n', r.1 = nI n' ∧ RSt r.2.1 r.2.2 d sc (R ^ lc S H) (ft S R H k m0 f) n' d0 c0 L0 Z0 Z0' kx) := by
  obtain ⟨P, Pq, P', Pq', Z, Z', u, hr, hN, hA, hz, hm, hs, ho⟩ := h
  obtain ⟨⟨r1, r2, r3, r4⟩, ⟨a1, a2, a3, a4⟩, ⟨z1, z2⟩, ⟨x1, x2, x3, x4⟩, y1, y2, y3, y4, y5, y6⟩ := id hr
  refine rn_m (f_69 (m0 := m0) hS hR0 k12 hT hc hC e7 r1 r2 a1 a2 hN z1 hA) (fun r ⟨b1, b2, b3, n', u', b4, b5⟩ => ⟨b1, b2, n', b4, P, Pq, P', Pq', Z, Z', u', rows_k b1 (by decide) hr, hN, b5, fun s hs' => ?_, hm, hs, ?_⟩)
  · rw [(b3 0 P' (by simp; exact ⟨Ne.symm y2, Ne.symm y4⟩)).2.2.2.2.1]; exact hz s hs'
  · exact ofa_tr ho hm (ofa_o (ota_wd b3 (by simp)))
theorem rst_adv {d0 : Ad} {c0 : Cl} {L0 : List Nat} {Z0 Z0' kx n : Nat} {f : Nat → Nat} (hS : SR c1 c8 st S R D H Q M L E K) (hR0 : 0 < R) (hC : SC c6 sc S R D H Q) (e7 : cR c7 0 sr = sc) (hb : 38 * sn f (R ^ lc S H) < 2 ^ 60) (h : RSt c6 c13 d sc (R ^ lc S H) f n d0 c0 L0 Z0 Z0' kx) : Rn (F_71 c6 c7 c13 d sr (nI n)) (fun r => Kp [10, 11, 12, 13, 14, 15] c6 r.2.1 ∧ Oth sc c6 r.2.1 ∧ ∃ n', r.1 = nI n' ∧ RSt r.2.1 r.2.2.1 r.2.2.2 sc (R ^ lc S H) (nw S R D H f) n' d0 c0 L0 Z0 Z0' (kx + 2)) := by
  obtain ⟨P, Pq, P', Pq', Z, Z', u, hr, hN, hA, hz, hm, hs, ho⟩ := h
  refine rn_m (f_71 hS hR0 hC e7 hr hN hA hz hb) (fun r ⟨b1, b2, P2, Pq2, Z2, b3, b4, b5, b6, b7, b8, n', u', b9, b10⟩ => ⟨b1, b2, n', b9, P2, Pq2, P, Pq, Z2, Z, u', b3, b4, b10, b8, rm_tr hm b5, ms_tr hs b6, ofa_tr ho hm b7⟩)
theorem SC_kk {c6' : Cl} (hK : Kp [10, 11, 12, 13, 14, 15] c6 c6') (h : SC c6 sc S R D H Q) : SC c6' sc S R D H Q := SC_k hK (by decide) h
theorem gl_68b {d0 : Ad} {c0 c6z : Cl} {L0 : List Nat} {Z0 Z0' n k : Nat} (hS : SR c1 c8 st S R D H Q M L E K) (hR0 : 0 < R) (k12 : k ≤ 12) (hT : TdR S Q k) (hc : TdC c10 w S k) (e7 : cR c7 0 sr = sc) (n8 : n ≤ 8) : ∀ (m i ln : Nat) (c6' c' : Cl) (d' : Ad), i + m = n → Kp [10, 11, 12, 13, 14, 15] c6z c6' → Oth sc c6z c6' → SC c6' sc S R D H Q → RSt c6' c' d' sc (R ^ lc S H) (wy S R D H k i) ln d0 c0 L0 Z0 Z0' (2 + 2 * i) → Rn (G_68 c1 c7 c8 c10 sr w 1 [nI k, nI n, nI ln, nI (i + 1)] [] [] c6' c' d') (fun r => Kp [10, 11, 12, 13, 14, 15] c6z r.2.1 ∧ Oth sc c6z r.2.1 ∧ SC r.2.1 sc S R D H Q ∧ ∃ ln', r.1 = nI ln' ∧ RSt r.2.1 r.2.2.1 r.2.2.2 sc (R ^ lc S H) (wy S R D H k n) ln' d0 c0 L0 Z0 Z0' 18)
  | 0, i, ln, c6', c', d', hi, hK, hO, hC, h => by
    have : i = n := by omega
    subst this
    rw [G_68]
    obtain ⟨P, Pq, P', Pq', Z, Z', u, b1, b2, b3, b4, b5, b6, b7⟩ := h
    exact rn_p (nI_lt (by omega) (by omega)) (rn_r ⟨hK, hO, hC, ln, rfl, P, Pq, P', Pq', Z, Z', u, b1, b2, b3, b4, b5, ms_wk b6 (by omega), b7⟩)
  | m + 1, i, ln, c6', c', d', hi, hK, hO, hC, h => by
    obtain ⟨⟨-, hR, r6⟩, -, ⟨-, hH, h6⟩, -⟩ := hS.1.1
    have b2 := wy_sum (S := S) (D := D) (k := k) hR0 r6 h6 (q0_ok hS) i
    have b3 : 37 ^ i ≤ 37 ^ 8 := Nat.pow_le_pow_right (by decide) (by omega)
    have b4 : (38 : Nat) * 37 ^ 8 < 2 ^ 60 := by decide
    have b5 : (38 : Nat) * sn (wy S R D H k i) (R ^ lc S H) ≤ 38 * 37 ^ 8 := Nat.mul_le_mul_left _ (Nat.le_trans b2 b3)
    rw [G_68]
    refine rn_n (nI_nlt (by omega) (by omega)) (rn_b (rst_adv (c7 := c7) (sr := sr) hS hR0 hC e7 (Nat.lt_of_le_of_lt b5 b4) h) (fun r ⟨g1, g2, n', g3, g4⟩ => ?_))
    rw [g3]
    have hC' := SC_kk g1 hC
    refine rn_b (rst_keep (c7 := c7) (sr := sr) (m0 := i + 1) hS hR0 k12 hT hc hC' e7 g4) (fun r' ⟨q1, q2, n'', q3, q4⟩ => ?_)
    rw [q3, nI_1]
    exact gl_68b hS hR0 k12 hT hc e7 n8 m (i + 1) n'' r'.2.1 r'.2.2 r.2.2.2 (by omega) (kp_tr hK (kp_tr g1 (kp_wd q1 (by decide)))) (oth_tr hO (oth_tr g2 q2)) (SC_k q1 (by decide) hC') q4
theorem gl_68a {k : Nat} (k12 : k ≤ 12) (hT : TdR S Q k) (hc : TdC c10 w S k) : ∀ (m i : Nat), i + m = k → G_68 c1 c7 c8 c10 sr w 0 [nI k, nI (mx S i), nI i] [] [] c6 c13 d = (F_69 c6 c7 c10 c13 d sr w (nI k) 0 1 >>= fun r8 => G_68 c1 c7 c8 c10 sr w 1 [nI k, nI (mx S k), r8.1, 1] [] [] r8.2.1 r8.2.2 d)
  | 0, i, hi => by
    have : i = k := by omega
    subst this
    conv => lhs; rw [G_68]
    rw [if_pos (nI_le (Nat.le_refl _) (by omega))]
  | m + 1, i, hi => by
    have ih := gl_68a k12 hT hc m (i + 1) (by omega)
    obtain ⟨⟨v, v8, ev⟩, -⟩ := hT i (by omega)
    have m8 := mx_8 (S := S) (Q := Q) (k := i) (fun j hj => hT j (by omega))
    rw [← ih]
    conv => lhs; rw [G_68]
    rw [if_neg (nI_ge (by omega) (by omega)), nI_1]
    refine ob_e (v := nI v) ((ald_ok (by omega) (by decide)).trans (by rw [(hc i (by omega)).1, ev])) ?_
    have e : imax (nI (mx S i)) (nI v) = nI (mx S (i + 1)) := by
      show _ = nI (if mx S i < (S (184 + 3 * i)).toNatClampNeg then (S (184 + 3 * i)).toNatClampNeg else mx S i)
      rw [ev, nI_clamp (by omega)]
      unfold imax
      by_cases y : mx S i < v
      · rw [if_pos y, if_neg (nI_ge y (by omega))]
      · rw [if_neg y, if_pos (nI_le (by omega) (by omega))]
    rw [e]
/-- all situations behind movings that fit the first so many told -/
theorem f_68 {P Pq P' Pq' Z Z' k : Nat} (hS : SR c1 c8 (cR c10 0 w) S R D H Q M L E K) (hR0 : 0 < R) (k12 : k ≤ 12) (hT : TdR S Q k) (hc : TdC c10 w S k) (e7 : cR c7 0 sr = sc) (hr : Rows c6 d sc P Pq P' Pq' Z Z') (hz : ∀ s, s < Z → cB c13 0 P s = 0) (hz' : ∀ s, s < Z' → cB c13 0 P' s = 0) : Rn (F_68 c1 c6 c7 c8 c10 c13 d sr w (nI k)) (fun r => Kp [0, 1, 2, 3, 4, 5, 6, 7, 8, 9, 10, 11, 12, 13, 14, 15] c6 r.2.1 ∧ Oth sc c6 r.2.1 ∧ SC r.2.1 sc S R D H Q ∧ ∃ n, r.1 = nI n ∧ RSt r.2.1 r.2.2.1 r.2.2.2 sc (R ^ lc S H) (wy S R D H k (mx S k)) n d c13 [P, Pq, P', Pq'] Z Z' 18) := by
  obtain ⟨⟨-, hR, r6⟩, -, ⟨-, hH, h6⟩, -⟩ := hS.1.1
  have ll := lc_le S H
  have m8 := mx_8 (S := S) hT
  unfold F_68
  rw [e7]
  refine rn_b (take_ok (c6 := c6) (sc := sc) hS) (fun c6a ⟨t1, t2, t3, t4, t5⟩ => ?_)
  have hk := kc_lt (S := S) (R := R) (q0_ok hS)
  refine rn_b (f_53 (c6 := c6a) (c13 := c13) (R := R) (l := lc S H) (s0 := kc S R H (q0 S)) (by omega) (by omega) (pow_sz r6 h6) t3.2.2.1 t5 hk (rows_k t1 (by decide) hr) hz) (fun r ⟨P2, Pq2, Z2, g1, g2, g3, g4, g5, g6, g7, g8⟩ => ?_)
  have x3 := hr.2.2.2.1
  have y := hr.2.2.2.2
  have hC : SC r.1 sc S R D H Q := SC_k g4 (by decide) t3
  have h0 : RSt r.1 r.2.1 r.2.2 sc (R ^ lc S H) (fun s => if s = kc S R H (q0 S) then 1 else 0) 1 d c13 [P, Pq, P', Pq'] Z Z' 2 := ⟨P2, Pq2, P', Pq', Z2, Z', _, g1, g2, g3, fun s hs => by
    rw [(g8 0 P' x3.2.2.1 (by simp; exact ⟨Ne.symm y.2.1, Ne.symm y.2.2.2.1⟩)).2]; exact hz' s hs, g6, g7, fun k a ha n => g8 k a ha (fun z => n (by simp at z ⊢; omega))⟩
  have a := gl_68a (c1 := c1) (c6 := r.1) (c7 := c7) (c8 := c8) (c13 := r.2.1) (d := r.2.2) (sr := sr) k12 hT hc k 0 (by omega)
  have a' : G_68 c1 c7 c8 c10 sr w 0 [nI k, 0, 0] [] [] r.1 r.2.1 r.2.2 = _ := a
  rw [a']
  refine rn_b (rst_keep (c7 := c7) (sr := sr) (m0 := 0) hS hR0 k12 hT hc hC e7 h0) (fun r' ⟨q1, q2, n'', q3, q4⟩ => ?_)
  rw [q3]
  refine rn_m (gl_68b (c6z := r.1) (n := mx S k) hS hR0 k12 hT hc e7 m8 (mx S k) 0 n'' r'.2.1 r'.2.2 r.2.2 (by omega) (kp_wd q1 (by decide)) q2 (SC_k q1 (by decide) hC) q4) (fun x ⟨u1, u2, u3, u4⟩ => ⟨kp_tr (kp_wd t1 (by decide)) (kp_tr (kp_wd g4 (by decide)) (kp_wd u1 (by decide))), oth_tr t2 (oth_tr g5 u2), u3, u4⟩)
end Reach
