/-! ===== the reference: counts, now and ago, felt ===== -/
section Said2
variable {c : Cl} {a : Nat}
theorem g_226b {r x : Int32} : ∀ m e, e + m = 6 → G_226 c a 1 [r, suf x (ec1 (cA c 20 a) r) e, nI e] [] [] = some (suf x (ec1 (cA c 20 a) r) 6)
  | 0, e, he => by
    have : e = 6 := by omega
    subst this
    rw [G_226]
    rw [if_pos (by decide)]
  | m + 1, e, he => by
    have ih := g_226b (r := r) (x := x) m (e + 1) (by omega)
    have hs : ((if cA c 20 a (94 + 3 * e + 2) ≤ cA c 20 a 4 then some 0 else ald (cA c 20 a) 221 (94 + (3 * nI e)) >>= fun v16 => if v16 = r then ald (cA c 20 a) 221 ((94 + (3 * nI e)) + 1) >>= fun v18 => some v18 else some 0) : Option Int32) = some (ec1 (cA c 20 a) r e) := by
      unfold ec1
      by_cases q : cA c 20 a (94 + 3 * e + 2) ≤ cA c 20 a 4
      · rw [if_pos q, if_pos q]
      · rw [if_neg q, if_neg q, ix_e0]
        refine ob_mk (ald_ok (by omega) (by decide)) ?_
        by_cases q2 : cA c 20 a (94 + 3 * e) = r
        · rw [if_pos q2, if_pos q2, show nI (94 + 3 * e) + 1 = nI (94 + 3 * e + 1) from nI_1 _]; exact ob_mk (ald_ok (by omega) (by decide)) rfl
        · rw [if_neg q2, if_neg q2]
    rw [← ih]
    conv => lhs; rw [G_226]
    rw [if_neg (show ¬ (6 : Int32) ≤ nI e from nI_ge (a := e) (b := 6) (by omega) (by decide)), show ((94 : Int32) + (3 * nI e)) + 2 = nI (94 + 3 * e + 2) from ix_e e 2, ald_ok (show 94 + 3 * e + 2 < 221 by omega) (by decide), al_4]
    show (((if cA c 20 a (94 + 3 * e + 2) ≤ cA c 20 a 4 then some 0 else ald (cA c 20 a) 221 (94 + (3 * nI e)) >>= fun v16 => if v16 = r then ald (cA c 20 a) 221 ((94 + (3 * nI e)) + 1) >>= fun v18 => some v18 else some 0) : Option Int32) >>= fun t => G_226 c a 1 [r, suf x (ec1 (cA c 20 a) r) e + t, nI e + 1] [] []) = _
    rw [hs, nI_1]
    rfl
/-- the count of a room -/
def cnt (S : Nat → Int32) (H : Nat) (r : Int32) : Int32 := suf (su (hd1 S r) H) (ec1 S r) 6
theorem f_226 {r : Int32} {H : Nat} (hH : cA c 20 a 2 = nI H) (h6 : H ≤ 6) : F_226 c a r = some (cnt (cA c 20 a) H r) := by
  unfold F_226
  have h1 := g_226a (c := c) (a := a) (r := r) hH h6 H 0 (by omega)
  have h2 := g_226b (c := c) (a := a) (r := r) (x := su (hd1 (cA c 20 a) r) H) 6 0 rfl
  exact h1.trans h2
/-- the count at first -/
def cf1 (S : Nat → Int32) (r : Int32) (h : Nat) : Int32 := if S (40 + 6 * h + 2) = r then S (40 + 6 * h + 1) else 0
theorem gl_229 {r : Int32} {H : Nat} (hH : cA c 20 a 2 = nI H) (h6 : H ≤ 6) : ∀ m i, i + m = H → G_229 c a 0 [r, su (cf1 (cA c 20 a) r) i, nI i] [] [] = some (su (cf1 (cA c 20 a) r) H)
  | 0, i, hi => by
    have : i = H := by omega
    subst this
    rw [G_229]
    rw [al_2]
    show (if cA c 20 a 2 ≤ nI i then _ else _) = _
    rw [if_pos (by rw [hH]; exact nI_le (Nat.le_refl _) (by omega))]
  | m + 1, i, hi => by
    have ih := gl_229 (r := r) hH h6 m (i + 1) (by omega)
    have hs : ((if cA c 20 a (40 + 6 * i + 2) = r then F_223 c a (nI i) 1 >>= fun r7 => some r7 else some 0) : Option Int32) = some (cf1 (cA c 20 a) r i) := by
      unfold cf1
      by_cases q : cA c 20 a (40 + 6 * i + 2) = r
      · rw [if_pos q, if_pos q]; exact ob_mk (f_223 (w := 1) (by omega) (by decide)) rfl
      · rw [if_neg q, if_neg q]
    rw [← ih]
    conv => lhs; rw [G_229]
    rw [al_2]
    show (if cA c 20 a 2 ≤ nI i then _ else _) = _
    rw [if_neg (by rw [hH]; exact nI_ge (by omega) (by omega)), show F_223 c a (nI i) 2 = some (cA c 20 a (40 + 6 * i + 2)) from f_223 (w := 2) (by omega) (by decide)]
    show (((if cA c 20 a (40 + 6 * i + 2) = r then F_223 c a (nI i) 1 >>= fun r7 => some r7 else some 0) : Option Int32) >>= fun t4 => G_229 c a 0 [r, su (cf1 (cA c 20 a) r) i + t4, nI i + 1] [] []) = _
    rw [hs, nI_1]
    rfl
theorem f_229 {r : Int32} {H : Nat} (hH : cA c 20 a 2 = nI H) (h6 : H ≤ 6) : F_229 c a r = some (su (cf1 (cA c 20 a) r) H) := by
  unfold F_229
  exact gl_229 (c := c) (a := a) (r := r) hH h6 H 0 (by omega)
theorem irm_ok {x y : Nat} (hx : x < 2 ^ 31) (h0 : 0 < y) (hy : y < 2 ^ 31) : irm (nI x) (nI y) = some (nI (x % y)) := by
  unfold irm
  rw [if_neg (nI_ne0 h0 hy), pk_rem hx h0 hy]
/-- the count of so many minutes ago -/
def cago (S : Nat → Int32) (H M r k : Nat) : Int32 := if k = 0 then cnt S H (nI r) else if k ≤ M then S (112 + 6 * ((M - k) % 12) + r) else su (cf1 S (nI r)) H
theorem f_228 {H M r k : Nat} (hH : cA c 20 a 2 = nI H) (h6 : H ≤ 6) (hM : cA c 20 a 4 = nI M) (hM2 : M < 2 ^ 30) (hr : r < 6) (hk : k < 100) : F_228 c a (nI r) (nI k) = some (cago (cA c 20 a) H M r k) := by
  unfold F_228 cago
  by_cases q : k = 0
  · subst q
    rw [if_pos rfl]
    exact in_pos rfl (ob_mk (f_226 hH h6) rfl)
  · rw [if_neg q]
    refine in_neg (nI_ne0 (by omega) (by omega)) (ob_mk al_4 ?_)
    by_cases q2 : k ≤ M
    · rw [if_pos q2]
      have e1 : cA c 20 a 4 - nI k = nI (M - k) := by rw [hM]; exact pk_sub q2
      have e2 : ((112 : Int32) + (6 * nI ((M - k) % 12))) + nI r = nI (112 + 6 * ((M - k) % 12) + r) := by
        rw [show (6 : Int32) * nI ((M - k) % 12) = nI (6 * ((M - k) % 12)) from pk_mul 6 _, show (112 : Int32) + nI (6 * ((M - k) % 12)) = nI (112 + 6 * ((M - k) % 12)) from nI_add 112 _, nI_add]
      have hm : (M - k) % 12 < 12 := Nat.mod_lt _ (by decide)
      refine ob_mk (v := cA c 20 a (112 + 6 * ((M - k) % 12) + r)) (in_pos (by rw [hM]; exact nI_le q2 (by omega)) (ob_mk al_4 ?_)) rfl
      rw [e1]
      refine ob_mk (v := nI ((M - k) % 12)) (irm_ok (x := M - k) (y := 12) (by omega) (by decide) (by decide)) ?_
      rw [e2]
      exact ob_mk (ald_ok (by omega) (by decide)) rfl
    · rw [if_neg q2]
      exact ob_mk (in_neg (by rw [hM]; exact nI_ge (by omega) (by omega)) (ob_mk (f_229 hH h6) rfl)) rfl
theorem f_230 {H M r k : Nat} (hH : cA c 20 a 2 = nI H) (h6 : H ≤ 6) (hM : cA c 20 a 4 = nI M) (hM2 : M < 2 ^ 30) (hr : r < 6) (hk : k < 100) (hd : cA c 20 a (76 + r) = nI k) : F_230 c a (nI r) = some (cago (cA c 20 a) H M r k) := by
  unfold F_230
  rw [show (76 : Int32) + nI r = nI (76 + r) from nI_add 76 r]
  refine ob_mk (ald_ok (by omega) (by decide)) ?_
  rw [hd]
  exact ob_mk (f_228 hH h6 hM hM2 hr hk) rfl
/-- a bit -/
def bit1 (x p : Int32) : Int32 := if ((x >>> (p &&& 31)) &&& 1) = 1 then 1 else 0
theorem f_171 (x p : Int32) : F_171 x p = some (bit1 x p) := by
  unfold F_171 bit1
  by_cases q : ((x >>> (p &&& 31)) &&& 1) = 1
  · rw [if_pos q, if_pos q]; rfl
  · rw [if_neg q, if_neg q]; rfl
/-- what a sense feels -/
def fe1 (S : Nat → Int32) (K : Nat → Nat) (H M s r : Nat) : Int32 := if bit1 (S (88 + s)) (nI r) = 0 then 0 else cago S H M r (K r)
theorem gl_231 {H M R s : Nat} {K : Nat → Nat} (hH : cA c 20 a 2 = nI H) (h6 : H ≤ 6) (hM : cA c 20 a 4 = nI M) (hM2 : M < 2 ^ 30) (hR : cA c 20 a 0 = nI R) (r6 : R ≤ 6) (hs : s < 6) (hK : ∀ r, r < R → cA c 20 a (76 + r) = nI (K r) ∧ K r < 100) : ∀ m i, i + m = R → G_231 c a 0 [nI s, su (fe1 (cA c 20 a) K H M s) i, nI i] [] [] = some (su (fe1 (cA c 20 a) K H M s) R)
  | 0, i, hi => by
    have : i = R := by omega
    subst this
    rw [G_231]
    rw [al_0]
    show (if cA c 20 a 0 ≤ nI i then _ else _) = _
    rw [if_pos (by rw [hR]; exact nI_le (Nat.le_refl _) (by omega))]
  | m + 1, i, hi => by
    have ih := gl_231 hH h6 hM hM2 hR r6 hs hK m (i + 1) (by omega)
    have hq : ((if bit1 (cA c 20 a (88 + s)) (nI i) = 0 then some 0 else F_230 c a (nI i) >>= fun r8 => some r8) : Option Int32) = some (fe1 (cA c 20 a) K H M s i) := by
      unfold fe1
      by_cases q : bit1 (cA c 20 a (88 + s)) (nI i) = 0
      · rw [if_pos q, if_pos q]
      · rw [if_neg q, if_neg q]; exact ob_mk (f_230 hH h6 hM hM2 (by omega) (hK i (by omega)).2 (hK i (by omega)).1) rfl
    rw [← ih]
    conv => lhs; rw [G_231]
    rw [al_0]
    show (if cA c 20 a 0 ≤ nI i then _ else _) = _
    rw [if_neg (by rw [hR]; exact nI_ge (by omega) (by omega)), show (88 : Int32) + nI s = nI (88 + s) from nI_add 88 s, ald_ok (show 88 + s < 221 by omega) (by decide)]
    show (F_171 (cA c 20 a (88 + s)) (nI i) >>= fun r4 => ((if r4 = 0 then some 0 else F_230 c a (nI i) >>= fun r8 => some r8) : Option Int32) >>= fun t5 => G_231 c a 0 [nI s, su (fe1 (cA c 20 a) K H M s) i + t5, nI i + 1] [] []) = _
    rw [f_171]
    show (((if bit1 (cA c 20 a (88 + s)) (nI i) = 0 then some 0 else F_230 c a (nI i) >>= fun r8 => some r8) : Option Int32) >>= fun t5 => G_231 c a 0 [nI s, su (fe1 (cA c 20 a) K H M s) i + t5, nI i + 1] [] []) = _
    rw [hq, nI_1]
    rfl
theorem f_231 {H M R s : Nat} {K : Nat → Nat} (hH : cA c 20 a 2 = nI H) (h6 : H ≤ 6) (hM : cA c 20 a 4 = nI M) (hM2 : M < 2 ^ 30) (hR : cA c 20 a 0 = nI R) (r6 : R ≤ 6) (hs : s < 6) (hK : ∀ r, r < R → cA c 20 a (76 + r) = nI (K r) ∧ K r < 100) : F_231 c a (nI s) = some (su (fe1 (cA c 20 a) K H M s) R) := by
  unfold F_231
  exact gl_231 hH h6 hM hM2 hR r6 hs hK R 0 (by omega)
end Said2
