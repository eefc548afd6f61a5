/-! ===== a state of the class against the reference's row: what is read of both ===== -/
/-- numbers of rooms, doors, heads, senses, the minute -/
def SnR (c1 c8 : Cl) (st : Nat) (S : Nat → Int32) (R D H Q M : Nat) : Prop :=
  (cI c1 0 (cR c8 0 st) = nI R ∧ S 0 = nI R ∧ R ≤ 6) ∧ (cI c1 1 (cR c8 0 st) = nI D ∧ S 1 = nI D ∧ D ≤ 10) ∧ (cI c1 2 (cR c8 0 st) = nI H ∧ S 2 = nI H ∧ H ≤ 6) ∧ (cI c1 3 (cR c8 0 st) = nI Q ∧ S 3 = nI Q ∧ Q ≤ 6) ∧ (cI c8 1 st = nI M ∧ S 4 = nI M ∧ M < 20000)
/-- heads -/
def ShR (c1 c8 : Cl) (st : Nat) (S : Nat → Int32) (H : Nat) : Prop := ∀ h, h < H →
  cA c8 4 st h = S (40 + 6 * h + 0) ∧ cA c1 8 (cR c8 0 st) h = S (40 + 6 * h + 1) ∧ cA c1 7 (cR c8 0 st) h = S (40 + 6 * h + 2) ∧ cA c8 5 st h = S (40 + 6 * h + 3) ∧ cA c8 6 st h = S (40 + 6 * h + 4) ∧
  ((S (40 + 6 * h + 5) = -1 ∧ cA c8 7 st h = 1000000) ∨ ∃ t, t < 30000 ∧ S (40 + 6 * h + 5) = nI t ∧ cA c8 7 st h = nI t)
/-- counts, now, ago and at first; delays -/
def ScR (c1 c8 : Cl) (st : Nat) (S : Nat → Int32) (R H M : Nat) (K : Nat → Nat) : Prop :=
  (∀ r, r < R → cA c8 11 st r = cnt S H (nI r)) ∧ (∀ t r, t ≤ M → M < t + 10 → r < R → cA c8 13 st (t % 10 * 6 + r) = S (112 + 6 * (t % 12) + r)) ∧ (∀ r, r < R → cA c1 12 (cR c8 0 st) r = su (cf1 S (nI r)) H) ∧ (∀ r, r < R → cA c1 9 (cR c8 0 st) r = nI (K r) ∧ S (76 + r) = nI (K r) ∧ K r ≤ 5)
section State
variable {c1 c8 : Cl} {st : Nat} {S : Nat → Int32} {R D H Q M : Nat} {K : Nat → Nat}
theorem f_83 {h : Nat} (hh : h < H) (h6 : H ≤ 6) (hS : ShR c1 c8 st S H) : F_83 c8 st (nI h) = some (lv S h) := by
  obtain ⟨-, -, -, -, -, g⟩ := hS h hh
  unfold F_83 lv
  refine ob_mk (ald_ok (by omega) (by decide)) ?_
  rcases g with ⟨g1, g2⟩ | ⟨t, ht, g1, g2⟩
  · rw [g1, g2]; rfl
  · rw [g1, g2, if_pos (nI_pos' (n := t) (by omega)), if_neg (show ¬ nI t = (1000000 : Int32) from fun q => by have := (nI_eq (a := t) (b := 1000000) (by omega) (by decide)).mp q; omega)]; rfl
theorem f_84 {h : Nat} (hh : h < H) (hN : SnR c1 c8 st S R D H Q M) (hS : ShR c1 c8 st S H) : F_84 c8 st (nI h) = some (ctd S h) := by
  obtain ⟨-, -, ⟨-, -, h6⟩, -, m1, m2, m3⟩ := hN
  obtain ⟨-, -, -, -, -, g⟩ := hS h hh
  unfold F_84 ctd
  refine ob_mk (ald_ok (by omega) (by decide)) ?_
  rcases g with ⟨g1, g2⟩ | ⟨t, ht, g1, g2⟩
  · rw [g1, g2, m1, if_neg (show ¬ (1000000 : Int32) ≤ nI M from nI_ge (a := M) (b := 1000000) (by omega) (by decide))]; rfl
  · rw [g1, g2, m1, m2, if_pos (nI_pos' (n := t) (by omega))]
    by_cases q : t ≤ M
    · rw [if_pos (nI_le q (by omega)), if_pos (nI_le q (by omega))]; rfl
    · rw [if_neg (nI_ge (by omega) (by omega)), if_neg (nI_ge (by omega) (by omega))]; rfl
theorem f_95 {r k : Nat} (hr : r < R) (hk : k ≤ 9) (hN : SnR c1 c8 st S R D H Q M) (hC : ScR c1 c8 st S R H M K) : F_95 c1 c8 st (nI r) (nI k) = some (cago S H M r k) := by
  obtain ⟨⟨-, -, r6⟩, -, -, -, m1, m2, m3⟩ := hN
  obtain ⟨d1, d2, d3, -⟩ := hC
  unfold F_95 cago
  by_cases q : k = 0
  · subst q
    rw [if_pos rfl, ← d1 r hr]
    exact in_pos rfl (ob_mk (ald_ok (by omega) (by decide)) rfl)
  · rw [if_neg q]
    refine in_neg (nI_ne0 (by omega) (by omega)) ?_
    rw [m1]
    by_cases q2 : k ≤ M
    · rw [if_pos q2, ← d2 (M - k) r (by omega) (by omega) hr]
      have e2 : (nI ((M - k) % 10) * (6 : Int32)) + nI r = nI ((M - k) % 10 * 6 + r) := by
        rw [show nI ((M - k) % 10) * (6 : Int32) = nI ((M - k) % 10 * 6) from pk_mul _ 6, nI_add]
      have hm : (M - k) % 10 < 10 := Nat.mod_lt _ (by decide)
      refine ob_mk (v := cA c8 13 st ((M - k) % 10 * 6 + r)) (in_pos (nI_le q2 (by omega)) ?_) rfl
      rw [show nI M - nI k = nI (M - k) from pk_sub q2]
      refine ob_mk (v := nI ((M - k) % 10)) (irm_ok (x := M - k) (y := 10) (by omega) (by decide) (by decide)) ?_
      rw [e2]
      exact ob_mk (ald_ok (by omega) (by decide)) rfl
    · rw [if_neg q2, ← d3 r hr]
      exact ob_mk (in_neg (nI_ge (by omega) (by omega)) (ob_mk (ald_ok (by omega) (by decide)) rfl)) rfl
theorem f_96 {r : Nat} (hr : r < R) (hN : SnR c1 c8 st S R D H Q M) (hC : ScR c1 c8 st S R H M K) : F_96 c1 c8 st (nI r) = some (cago S H M r (K r)) := by
  obtain ⟨k1, k2, k3⟩ := hC.2.2.2 r hr
  have r6 := hN.1.2.2
  unfold F_96
  refine ob_mk (ald_ok (by omega) (by decide)) ?_
  rw [k1]
  exact ob_mk (f_95 hr (by omega) hN hC) rfl
theorem gl_97 {s : Nat} (hs : s < 6) (hN : SnR c1 c8 st S R D H Q M) (hC : ScR c1 c8 st S R H M K) (hQ : cA c1 11 (cR c8 0 st) s = S (88 + s)) : ∀ m i, i + m = R → G_97 c1 c8 st 0 [nI s, su (fe1 S K H M s) i, nI i] [] [] = some (su (fe1 S K H M s) R)
  | 0, i, hi => by
    have : i = R := by omega
    subst this
    obtain ⟨⟨h1, -, r6⟩, -⟩ := hN
    rw [G_97]
    rw [h1, if_pos (nI_le (Nat.le_refl _) (by omega))]
  | m + 1, i, hi => by
    have ih := gl_97 hs hN hC hQ m (i + 1) (by omega)
    have hq : ((if ((S (88 + s) >>> (nI i &&& 31)) &&& 1) = 1 then F_96 c1 c8 st (nI i) >>= fun r7 => some (su (fe1 S K H M s) i + r7) else some (su (fe1 S K H M s) i)) : Option Int32) = some (su (fe1 S K H M s) (i + 1)) := by
      show _ = some (su (fe1 S K H M s) i + fe1 S K H M s i)
      unfold fe1 bit1
      by_cases q : ((S (88 + s) >>> (nI i &&& 31)) &&& 1) = 1
      · rw [if_pos q, if_pos q, if_neg (by decide)]; exact ob_mk (f_96 (by omega) hN hC) rfl
      · rw [if_neg q, if_neg q, if_pos rfl, Int32.add_zero]
    obtain ⟨⟨h1, -, r6⟩, -⟩ := hN
    rw [← ih]
    conv => lhs; rw [G_97]
    rw [h1, if_neg (nI_ge (by omega) (by omega)), ald_ok hs (by decide), hQ]
    show (((if ((S (88 + s) >>> (nI i &&& 31)) &&& 1) = 1 then F_96 c1 c8 st (nI i) >>= fun r7 => some (su (fe1 S K H M s) i + r7) else some (su (fe1 S K H M s) i)) : Option Int32) >>= fun t4 => G_97 c1 c8 st 0 [nI s, t4, nI i + 1] [] []) = _
    rw [hq, nI_1]
    rfl
theorem f_97 {s : Nat} (hs : s < 6) (hN : SnR c1 c8 st S R D H Q M) (hC : ScR c1 c8 st S R H M K) (hQ : cA c1 11 (cR c8 0 st) s = S (88 + s)) : F_97 c1 c8 st (nI s) = some (su (fe1 S K H M s) R) := by
  unfold F_97
  exact gl_97 hs hN hC hQ R 0 (by omega)
end State
