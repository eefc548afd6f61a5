/-! ===== count: both answer alike ===== -/
def hh1 (R : Nat) : Int32 := if nI R ≤ 0 then 0 else 1
section Count
variable {c1 c8 c10 c11 c12 : Cl} {B B2 R D H Q M : Nat} {K : Nat → Nat}
theorem has_1 {v : Int32} {n : Nat} (hv : v = nI n) : (((if v ≤ 0 then some 0 else some 1) : Option Int32) >>= fun t => zb t >>= fun z => some z) = some (hh1 n) := by
  unfold hh1
  rw [hv]
  by_cases q : nI n ≤ 0
  · rw [if_pos q, if_pos q]; rfl
  · rw [if_neg q, if_neg q]; rfl
theorem f_157 {S : Nat → Int32} (hN : SnR c1 c8 (cR c10 0 (cR c11 7 B)) S R D H Q M) : F_157 c1 c8 c10 c11 B = some (hh1 R) := has_1 hN.1.1
theorem f_218 {st : Nat} (hN : SnR c1 c8 st (cA c12 20 B2) R D H Q M) : F_218 c12 B2 = some (hh1 R) := by
  unfold F_218
  exact ob_mk al_0 (has_1 hN.1.2.1)
def lv1 (S : Nat → Int32) (h : Nat) : Int32 := if lv S h = 0 then 0 else 1
theorem gl_99 {st : Nat} {S : Nat → Int32} (hN : SnR c1 c8 st S R D H Q M) (hS : ShR c1 c8 st S H) : ∀ m i, i + m = H → G_99 c1 c8 st 0 [su (lv1 S) i, nI i] [] [] = some (su (lv1 S) H)
  | 0, i, hi => by
    have : i = H := by omega
    subst this
    obtain ⟨-, -, ⟨h1, -, h6⟩, -⟩ := hN
    rw [G_99]
    rw [h1, if_pos (nI_le (Nat.le_refl _) (by omega))]
  | m + 1, i, hi => by
    have ih := gl_99 hN hS m (i + 1) (by omega)
    obtain ⟨-, -, ⟨h1, -, h6⟩, -⟩ := hN
    have hs : ((if lv S i = 0 then some 0 else some 1) : Option Int32) = some (lv1 S i) := by
      unfold lv1
      by_cases q : lv S i = 0
      · rw [if_pos q, if_pos q]
      · rw [if_neg q, if_neg q]
    rw [← ih]
    conv => lhs; rw [G_99]
    rw [h1, if_neg (nI_ge (by omega) (by omega)), f_83 (by omega) h6 hS]
    show (((if lv S i = 0 then some 0 else some 1) : Option Int32) >>= fun t4 => G_99 c1 c8 st 0 [su (lv1 S) i + t4, nI i + 1] [] []) = _
    rw [hs, nI_1]
    rfl
def gn1 (S : Nat → Int32) (h : Nat) : Int32 := S (40 + 6 * h + 4)
theorem gl_100 {st : Nat} {S : Nat → Int32} (hN : SnR c1 c8 st S R D H Q M) (hS : ShR c1 c8 st S H) : ∀ m i, i + m = H → G_100 c1 c8 st 0 [su (gn1 S) i, nI i] [] [] = some (su (gn1 S) H)
  | 0, i, hi => by
    have : i = H := by omega
    subst this
    obtain ⟨-, -, ⟨h1, -, h6⟩, -⟩ := hN
    rw [G_100]
    rw [h1, if_pos (nI_le (Nat.le_refl _) (by omega))]
  | m + 1, i, hi => by
    have ih := gl_100 hN hS m (i + 1) (by omega)
    obtain ⟨-, -, ⟨h1, -, h6⟩, -⟩ := hN
    rw [← ih]
    conv => lhs; rw [G_100]
    rw [h1, if_neg (nI_ge (by omega) (by omega)), ald_ok (by omega) (by decide), (hS i (by omega)).2.2.2.2.1]
    show G_100 c1 c8 st 0 [su (gn1 S) i + S (40 + 6 * i + 4), nI i + 1] [] [] = _
    rw [nI_1]
    rfl
theorem gl_296a (hH : cA c12 20 B2 2 = nI H) (h6 : H ≤ 6) : ∀ m i, i + m = H → G_296 c12 B2 0 [su (lv1 (cA c12 20 B2)) i, nI i] [] [] = some (su (lv1 (cA c12 20 B2)) H)
  | 0, i, hi => by
    have : i = H := by omega
    subst this
    rw [G_296]
    rw [al_2]
    show (if cA c12 20 B2 2 ≤ nI i then _ else _) = _
    rw [if_pos (by rw [hH]; exact nI_le (Nat.le_refl _) (by omega))]
  | m + 1, i, hi => by
    have ih := gl_296a hH h6 m (i + 1) (by omega)
    have hs : ((if lv (cA c12 20 B2) i = 0 then some 0 else some 1) : Option Int32) = some (lv1 (cA c12 20 B2) i) := by
      unfold lv1
      by_cases q : lv (cA c12 20 B2) i = 0
      · rw [if_pos q, if_pos q]
      · rw [if_neg q, if_neg q]
    rw [← ih]
    conv => lhs; rw [G_296]
    rw [al_2]
    show (if cA c12 20 B2 2 ≤ nI i then _ else _) = _
    rw [if_neg (by rw [hH]; exact nI_ge (by omega) (by omega)), f_224 (by omega)]
    show (((if lv (cA c12 20 B2) i = 0 then some 0 else some 1) : Option Int32) >>= fun t4 => G_296 c12 B2 0 [su (lv1 (cA c12 20 B2)) i + t4, nI i + 1] [] []) = _
    rw [hs, nI_1]
    rfl
def ea1 (S : Nat → Int32) (e : Nat) : Int32 := if S (94 + 3 * e + 2) ≤ S 4 then 0 else 1
theorem gl_296b : ∀ m e, e + m = 6 → G_296 c12 B2 1 [su (ea1 (cA c12 20 B2)) e, nI e] [] [] = some (su (ea1 (cA c12 20 B2)) 6)
  | 0, e, he => by
    have : e = 6 := by omega
    subst this
    rw [G_296]
    rw [if_pos (by decide)]
  | m + 1, e, he => by
    have ih := gl_296b m (e + 1) (by omega)
    have hs : ((if cA c12 20 B2 (94 + 3 * e + 2) ≤ cA c12 20 B2 4 then some 0 else some 1) : Option Int32) = some (ea1 (cA c12 20 B2) e) := by
      unfold ea1
      by_cases q : cA c12 20 B2 (94 + 3 * e + 2) ≤ cA c12 20 B2 4
      · rw [if_pos q, if_pos q]
      · rw [if_neg q, if_neg q]
    rw [← ih]
    conv => lhs; rw [G_296]
    rw [if_neg (show ¬ (6 : Int32) ≤ nI e from nI_ge (a := e) (b := 6) (by omega) (by decide)), show ((94 : Int32) + (3 * nI e)) + 2 = nI (94 + 3 * e + 2) from ix_e e 2, ald_ok (show 94 + 3 * e + 2 < 221 by omega) (by decide), al_4]
    show (((if cA c12 20 B2 (94 + 3 * e + 2) ≤ cA c12 20 B2 4 then some 0 else some 1) : Option Int32) >>= fun t => G_296 c12 B2 1 [su (ea1 (cA c12 20 B2)) e + t, nI e + 1] [] []) = _
    rw [hs, nI_1]
    rfl
theorem q_count {p : Int32} (hN : SnR c1 c8 (cR c10 0 (cR c11 7 B)) (cA c12 20 B2) R D H Q M) (hS : ShR c1 c8 (cR c10 0 (cR c11 7 B)) (cA c12 20 B2) H)
    (he : cI c8 3 (cR c10 0 (cR c11 7 B)) = su (ea1 (cA c12 20 B2)) 6) (hg : cA c12 20 B2 5 = su (gn1 (cA c12 20 B2)) H) (hli : ¬ nI R ≤ 0 → cI c1 4 (cR c8 0 (cR c10 0 (cR c11 7 B))) = cA c12 20 B2 7) (hru : cI c11 6 B = cI c12 2 B2) (hto : cI c10 5 (cR c11 7 B) = cA c12 20 B2 220) (hun : cI c10 3 (cR c11 7 B) = cI c12 23 B2) (hx : cI c10 4 (cR c11 7 B) = cI c12 21 B2) (ht : cI c11 1 B = cI c12 1 B2) : ∃ x, F_153 c1 c8 c10 c11 B p = some x ∧ F_296 c12 B2 p = some x := by
  obtain ⟨⟨r1, r2, r6⟩, ⟨d1, d2, d10⟩, ⟨h1, hH, h6⟩, ⟨s1, s2, s6⟩, m1, m2, m3⟩ := id hN
  unfold F_153 F_296
  by_cases a0 : p = 0
  · subst a0; exact ⟨_, in_pos rfl rfl, in_pos rfl (ob_mk al_0 (by rw [r2, r1]))⟩
  by_cases a1 : p = 1
  · subst a1; exact ⟨_, in_neg a0 (in_pos rfl rfl), in_neg a0 (in_pos rfl (ob_mk al_1 (by rw [d2, d1])))⟩
  by_cases a2 : p = 2
  · subst a2; exact ⟨_, in_neg a0 (in_neg a1 (in_pos rfl rfl)), in_neg a0 (in_neg a1 (in_pos rfl (ob_mk al_2 (by rw [hH, h1]))))⟩
  by_cases a3 : p = 3
  · subst a3; exact ⟨_, in_neg a0 (in_neg a1 (in_neg a2 (in_pos rfl rfl))), in_neg a0 (in_neg a1 (in_neg a2 (in_pos rfl (ob_mk (ald_ok (i := 3) (by decide) (by decide)) (by rw [s2, s1])))))⟩
  by_cases a4 : p = 4
  · exact ⟨_, in_neg a0 (in_neg a1 (in_neg a2 (in_neg a3 (in_pos a4 rfl)))), in_neg a0 (in_neg a1 (in_neg a2 (in_neg a3 (in_pos a4 (by rw [hru])))))⟩
  by_cases a5 : p = 5
  · exact ⟨_, in_neg a0 (in_neg a1 (in_neg a2 (in_neg a3 (in_neg a4 (in_pos a5 rfl))))), in_neg a0 (in_neg a1 (in_neg a2 (in_neg a3 (in_neg a4 (in_pos a5 (ob_mk al_4 (by rw [m1, m2])))))))⟩
  by_cases a6 : p = 6
  · exact ⟨_, in_neg a0 (in_neg a1 (in_neg a2 (in_neg a3 (in_neg a4 (in_neg a5 (in_pos a6 (ob_mk (gl_99 hN hS H 0 (by omega)) rfl))))))), in_neg a0 (in_neg a1 (in_neg a2 (in_neg a3 (in_neg a4 (in_neg a5 (in_pos a6 (gl_296a hH h6 H 0 (by omega))))))))⟩
  by_cases a7 : p = 7
  · exact ⟨_, in_neg a0 (in_neg a1 (in_neg a2 (in_neg a3 (in_neg a4 (in_neg a5 (in_neg a6 (in_pos a7 rfl))))))), in_neg a0 (in_neg a1 (in_neg a2 (in_neg a3 (in_neg a4 (in_neg a5 (in_neg a6 (in_pos a7 (by rw [he]; exact gl_296b 6 0 rfl))))))))⟩
  by_cases a8 : p = 8
  · exact ⟨_, in_neg a0 (in_neg a1 (in_neg a2 (in_neg a3 (in_neg a4 (in_neg a5 (in_neg a6 (in_neg a7 (in_pos a8 rfl)))))))), in_neg a0 (in_neg a1 (in_neg a2 (in_neg a3 (in_neg a4 (in_neg a5 (in_neg a6 (in_neg a7 (in_pos a8 (ob_mk (ald_ok (i := 220) (by decide) (by decide)) (by rw [hto]))))))))))⟩
  by_cases a9 : p = 9
  · exact ⟨_, in_neg a0 (in_neg a1 (in_neg a2 (in_neg a3 (in_neg a4 (in_neg a5 (in_neg a6 (in_neg a7 (in_neg a8 (in_pos a9 rfl))))))))), in_neg a0 (in_neg a1 (in_neg a2 (in_neg a3 (in_neg a4 (in_neg a5 (in_neg a6 (in_neg a7 (in_neg a8 (in_pos a9 (by rw [hun]))))))))))⟩
  by_cases a10 : p = 10
  · exact ⟨_, in_neg a0 (in_neg a1 (in_neg a2 (in_neg a3 (in_neg a4 (in_neg a5 (in_neg a6 (in_neg a7 (in_neg a8 (in_neg a9 (in_pos a10 (ob_mk (gl_100 hN hS H 0 (by omega)) rfl))))))))))), in_neg a0 (in_neg a1 (in_neg a2 (in_neg a3 (in_neg a4 (in_neg a5 (in_neg a6 (in_neg a7 (in_neg a8 (in_neg a9 (in_pos a10 (ob_mk (ald_ok (i := 5) (by decide) (by decide)) (by rw [hg]))))))))))))⟩
  by_cases a11 : p = 11
  · by_cases w : nI R ≤ 0
    · have e : hh1 R = 0 := if_pos w
      exact ⟨-1, in_neg a0 (in_neg a1 (in_neg a2 (in_neg a3 (in_neg a4 (in_neg a5 (in_neg a6 (in_neg a7 (in_neg a8 (in_neg a9 (in_neg a10 (in_pos a11 (ob_mk (f_157 hN) (ob_mk (in_pos e rfl) rfl))))))))))))), in_neg a0 (in_neg a1 (in_neg a2 (in_neg a3 (in_neg a4 (in_neg a5 (in_neg a6 (in_neg a7 (in_neg a8 (in_neg a9 (in_neg a10 (in_pos a11 (ob_mk (f_218 hN) (ob_mk (in_pos e rfl) rfl)))))))))))))⟩
    · have e : ¬ hh1 R = 0 := by unfold hh1; rw [if_neg w]; decide
      exact ⟨_, in_neg a0 (in_neg a1 (in_neg a2 (in_neg a3 (in_neg a4 (in_neg a5 (in_neg a6 (in_neg a7 (in_neg a8 (in_neg a9 (in_neg a10 (in_pos a11 (ob_mk (f_157 hN) (ob_mk (in_neg e rfl) rfl))))))))))))), in_neg a0 (in_neg a1 (in_neg a2 (in_neg a3 (in_neg a4 (in_neg a5 (in_neg a6 (in_neg a7 (in_neg a8 (in_neg a9 (in_neg a10 (in_pos a11 (ob_mk (f_218 hN) (ob_mk (in_neg e (ob_mk (ald_ok (i := 7) (by decide) (by decide)) rfl)) (by rw [hli w]))))))))))))))⟩
  by_cases a12 : p = 12
  · exact ⟨_, in_neg a0 (in_neg a1 (in_neg a2 (in_neg a3 (in_neg a4 (in_neg a5 (in_neg a6 (in_neg a7 (in_neg a8 (in_neg a9 (in_neg a10 (in_neg a11 (in_pos a12 rfl)))))))))))), in_neg a0 (in_neg a1 (in_neg a2 (in_neg a3 (in_neg a4 (in_neg a5 (in_neg a6 (in_neg a7 (in_neg a8 (in_neg a9 (in_neg a10 (in_neg a11 (in_pos a12 (by rw [hx])))))))))))))⟩
  by_cases a13 : p = 13
  · exact ⟨_, in_neg a0 (in_neg a1 (in_neg a2 (in_neg a3 (in_neg a4 (in_neg a5 (in_neg a6 (in_neg a7 (in_neg a8 (in_neg a9 (in_neg a10 (in_neg a11 (in_neg a12 (in_pos a13 rfl))))))))))))), in_neg a0 (in_neg a1 (in_neg a2 (in_neg a3 (in_neg a4 (in_neg a5 (in_neg a6 (in_neg a7 (in_neg a8 (in_neg a9 (in_neg a10 (in_neg a11 (in_neg a12 (in_pos a13 (by rw [ht]))))))))))))))⟩
  exact ⟨-1, in_neg a0 (in_neg a1 (in_neg a2 (in_neg a3 (in_neg a4 (in_neg a5 (in_neg a6 (in_neg a7 (in_neg a8 (in_neg a9 (in_neg a10 (in_neg a11 (in_neg a12 (in_neg a13 rfl))))))))))))), in_neg a0 (in_neg a1 (in_neg a2 (in_neg a3 (in_neg a4 (in_neg a5 (in_neg a6 (in_neg a7 (in_neg a8 (in_neg a9 (in_neg a10 (in_neg a11 (in_neg a12 (in_neg a13 rfl)))))))))))))⟩
end Count
