/-! ===== the reference: what it reads of its row of numbers ===== -/
/-- sums, as they go round -/
def su (f : Nat → Int32) : Nat → Int32
  | 0 => 0
  | n + 1 => su f n + f n
theorem ix_h (h w : Nat) : ((40 : Int32) + (6 * nI h)) + nI w = nI (40 + 6 * h + w) := by
  rw [show (6 : Int32) * nI h = nI (6 * h) from pk_mul 6 h, show (40 : Int32) + nI (6 * h) = nI (40 + 6 * h) from nI_add 40 (6 * h), nI_add]
theorem ix_e (e w : Nat) : ((94 : Int32) + (3 * nI e)) + nI w = nI (94 + 3 * e + w) := by
  rw [show (3 : Int32) * nI e = nI (3 * e) from pk_mul 3 e, show (94 : Int32) + nI (3 * e) = nI (94 + 3 * e) from nI_add 94 (3 * e), nI_add]
theorem ix_e0 (e : Nat) : (94 : Int32) + (3 * nI e) = nI (94 + 3 * e) := by
  rw [show (3 : Int32) * nI e = nI (3 * e) from pk_mul 3 e]; exact nI_add 94 (3 * e)
theorem al_4 {S : Nat → Int32} : ald S 221 4 = some (S 4) := ald_ok (i := 4) (by decide) (by decide)
theorem al_2 {S : Nat → Int32} : ald S 221 2 = some (S 2) := ald_ok (i := 2) (by decide) (by decide)
theorem al_1 {S : Nat → Int32} : ald S 221 1 = some (S 1) := ald_ok (i := 1) (by decide) (by decide)
theorem al_0 {S : Nat → Int32} : ald S 221 0 = some (S 0) := ald_ok (i := 0) (by decide) (by decide)
section Said
variable {c : Cl} {a : Nat}
theorem f_223 {h w : Nat} (hh : h < 6) (hw : w < 6) : F_223 c a (nI h) (nI w) = some (cA c 20 a (40 + 6 * h + w)) := by
  unfold F_223
  rw [ix_h]
  exact ob_mk (ald_ok (by omega) (by decide)) rfl
/-- a head lives; counts -/
def lv (S : Nat → Int32) (h : Nat) : Int32 := if 0 ≤ S (40 + 6 * h + 5) then 0 else 1
def ctd (S : Nat → Int32) (h : Nat) : Int32 := if 0 ≤ S (40 + 6 * h + 5) then (if S (40 + 6 * h + 5) ≤ S 4 then 0 else 1) else 1
theorem f_224 {h : Nat} (hh : h < 6) : F_224 c a (nI h) = some (lv (cA c 20 a) h) := by
  unfold F_224 lv
  refine ob_mk (f_223 (w := 5) hh (by decide)) ?_
  by_cases q : 0 ≤ cA c 20 a (40 + 6 * h + 5)
  · rw [if_pos q, if_pos q]; rfl
  · rw [if_neg q, if_neg q]; rfl
theorem f_225 {h : Nat} (hh : h < 6) : F_225 c a (nI h) = some (ctd (cA c 20 a) h) := by
  unfold F_225
  refine ob_mk (f_224 hh) ?_
  unfold lv ctd
  by_cases q : 0 ≤ cA c 20 a (40 + 6 * h + 5)
  · rw [if_pos q, if_pos q]
    by_cases q2 : cA c 20 a (40 + 6 * h + 5) ≤ cA c 20 a 4
    · rw [if_pos q2]
      exact ob_mk (v := 0) (in_pos rfl (ob_mk al_4 (ob_mk (f_223 (w := 5) hh (by decide)) (in_pos q2 rfl)))) rfl
    · rw [if_neg q2]
      exact ob_mk (v := 1) (in_pos rfl (ob_mk al_4 (ob_mk (f_223 (w := 5) hh (by decide)) (in_neg q2 rfl)))) rfl
  · rw [if_neg q, if_neg q]
    exact ob_mk (v := 1) (in_neg (by decide) rfl) rfl
/-- what a head, an echo adds to the count of a room -/
def hd1 (S : Nat → Int32) (r : Int32) (h : Nat) : Int32 := if ctd S h = 0 then 0 else if S (40 + 6 * h + 0) = r then S (40 + 6 * h + 1) else 0
def ec1 (S : Nat → Int32) (r : Int32) (e : Nat) : Int32 := if S (94 + 3 * e + 2) ≤ S 4 then 0 else if S (94 + 3 * e) = r then S (94 + 3 * e + 1) else 0
def suf (x : Int32) (f : Nat → Int32) : Nat → Int32
  | 0 => x
  | n + 1 => suf x f n + f n
theorem suf_su (x : Int32) (f : Nat → Int32) : ∀ n, suf x f n = x + su f n
  | 0 => by show x = x + 0; rw [Int32.add_zero]
  | n + 1 => by show suf x f n + f n = x + (su f n + f n); rw [suf_su x f n, Int32.add_assoc]
theorem g_226a {r : Int32} {H : Nat} (hH : cA c 20 a 2 = nI H) (h6 : H ≤ 6) : ∀ m i, i + m = H → G_226 c a 0 [r, su (hd1 (cA c 20 a) r) i, nI i] [] [] = G_226 c a 1 [r, su (hd1 (cA c 20 a) r) H, 0] [] []
  | 0, i, hi => by
    have : i = H := by omega
    subst this
    conv => lhs; rw [G_226]
    rw [al_2]
    show (if cA c 20 a 2 ≤ nI i then _ else _) = _
    rw [if_pos (by rw [hH]; exact nI_le (Nat.le_refl _) (by omega))]
  | m + 1, i, hi => by
    have ih := g_226a (r := r) hH h6 m (i + 1) (by omega)
    have hs : ((if ctd (cA c 20 a) i = 0 then some 0 else F_223 c a (nI i) 0 >>= fun r7 => if r7 = r then F_223 c a (nI i) 1 >>= fun r9 => some r9 else some 0) : Option Int32) = some (hd1 (cA c 20 a) r i) := by
      unfold hd1
      by_cases q : ctd (cA c 20 a) i = 0
      · rw [if_pos q, if_pos q]
      · rw [if_neg q, if_neg q]
        refine ob_mk (f_223 (w := 0) (by omega) (by decide)) ?_
        by_cases q2 : cA c 20 a (40 + 6 * i + 0) = r
        · rw [if_pos q2, if_pos q2]; exact ob_mk (f_223 (w := 1) (by omega) (by decide)) rfl
        · rw [if_neg q2, if_neg q2]
    rw [← ih]
    conv => lhs; rw [G_226]
    rw [al_2]
    show (if cA c 20 a 2 ≤ nI i then _ else _) = _
    rw [if_neg (by rw [hH]; exact nI_ge (by omega) (by omega)), f_225 (by omega)]
    show (((if ctd (cA c 20 a) i = 0 then some 0 else F_223 c a (nI i) 0 >>= fun r7 => if r7 = r then F_223 c a (nI i) 1 >>= fun r9 => some r9 else some 0) : Option Int32) >>= fun t4 => G_226 c a 0 [r, su (hd1 (cA c 20 a) r) i + t4, nI i + 1] [] []) = _
    rw [hs, nI_1]
    rfl
end Said
