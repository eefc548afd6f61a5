/-! ===== room and door: both answer alike ===== -/
def bs1 (S : Nat → Int32) (r x : Int32) (i : Nat) : Int32 := if S (10 + 3 * i + 2) = 0 then x else if S (10 + 3 * i + 1) = r then (if S (10 + 3 * i) = r then x ||| (1 <<< (S (10 + 3 * i + 1) &&& 31)) else x) ||| (1 <<< (S (10 + 3 * i) &&& 31)) else (if S (10 + 3 * i) = r then x ||| (1 <<< (S (10 + 3 * i + 1) &&& 31)) else x)
/-- rooms to which open doors go -/
def bs (S : Nat → Int32) (r : Int32) : Nat → Int32
  | 0 => 0
  | n + 1 => bs1 S r (bs S r n) n
theorem ix_d (e w : Nat) : ((10 : Int32) + (3 * nI e)) + nI w = nI (10 + 3 * e + w) := by
  rw [show (3 : Int32) * nI e = nI (3 * e) from pk_mul 3 e, show (10 : Int32) + nI (3 * e) = nI (10 + 3 * e) from nI_add 10 (3 * e), nI_add]
theorem ix_d0 (e : Nat) : (10 : Int32) + (3 * nI e) = nI (10 + 3 * e) := by
  rw [show (3 : Int32) * nI e = nI (3 * e) from pk_mul 3 e]; exact nI_add 10 (3 * e)
section Besides
variable {c : Cl} {a : Nat}
theorem gl_232 {r : Int32} {D : Nat} (hD : cA c 20 a 1 = nI D) (d10 : D ≤ 10) : ∀ m i, i + m = D → G_232 c a 0 [r, bs (cA c 20 a) r i, nI i] [] [] = some (bs (cA c 20 a) r D)
  | 0, i, hi => by
    have : i = D := by omega
    subst this
    rw [G_232]
    rw [al_1]
    show (if cA c 20 a 1 ≤ nI i then _ else _) = _
    rw [if_pos (by rw [hD]; exact nI_le (Nat.le_refl _) (by omega))]
  | m + 1, i, hi => by
    have ih := gl_232 (r := r) hD d10 m (i + 1) (by omega)
    have hs : ((if cA c 20 a (10 + 3 * i + 2) = 0 then some (bs (cA c 20 a) r i) else ((if cA c 20 a (10 + 3 * i) = r then some (bs (cA c 20 a) r i ||| (1 <<< (cA c 20 a (10 + 3 * i + 1) &&& 31))) else some (bs (cA c 20 a) r i)) : Option Int32) >>= fun (t8 : Int32) => if cA c 20 a (10 + 3 * i + 1) = r then some (t8 ||| (1 <<< (cA c 20 a (10 + 3 * i) &&& 31))) else some t8) : Option Int32) = some (bs (cA c 20 a) r (i + 1)) := by
      show _ = some (bs1 (cA c 20 a) r (bs (cA c 20 a) r i) i)
      unfold bs1
      by_cases q : cA c 20 a (10 + 3 * i + 2) = 0
      · rw [if_pos q, if_pos q]
      · rw [if_neg q, if_neg q]
        by_cases q1 : cA c 20 a (10 + 3 * i) = r
        · rw [if_pos q1, if_pos q1]
          refine ob_mk rfl ?_
          by_cases q2 : cA c 20 a (10 + 3 * i + 1) = r
          · rw [if_pos q2, if_pos q2]
          · rw [if_neg q2, if_neg q2]
        · rw [if_neg q1, if_neg q1]
          refine ob_mk rfl ?_
          by_cases q2 : cA c 20 a (10 + 3 * i + 1) = r
          · rw [if_pos q2, if_pos q2]
          · rw [if_neg q2, if_neg q2]
    rw [← ih]
    conv => lhs; rw [G_232]
    rw [al_1]
    show (if cA c 20 a 1 ≤ nI i then _ else _) = _
    rw [if_neg (by rw [hD]; exact nI_ge (by omega) (by omega)), show ((10 : Int32) + (3 * nI i)) + 2 = nI (10 + 3 * i + 2) from ix_d i 2, show ((10 : Int32) + (3 * nI i)) + 1 = nI (10 + 3 * i + 1) from ix_d i 1, ix_d0, ald_ok (show 10 + 3 * i + 2 < 221 by omega) (by decide), ald_ok (show 10 + 3 * i + 1 < 221 by omega) (by decide), ald_ok (show 10 + 3 * i < 221 by omega) (by decide), nI_1]
    show (((if cA c 20 a (10 + 3 * i + 2) = 0 then some (bs (cA c 20 a) r i) else ((if cA c 20 a (10 + 3 * i) = r then some (bs (cA c 20 a) r i ||| (1 <<< (cA c 20 a (10 + 3 * i + 1) &&& 31))) else some (bs (cA c 20 a) r i)) : Option Int32) >>= fun (t8 : Int32) => if cA c 20 a (10 + 3 * i + 1) = r then some (t8 ||| (1 <<< (cA c 20 a (10 + 3 * i) &&& 31))) else some t8) : Option Int32) >>= fun (t4 : Int32) => G_232 c a 0 [r, t4, nI (i + 1)] [] []) = _
    rw [hs]
    rfl
theorem f_232 {r : Int32} {D : Nat} (hD : cA c 20 a 1 = nI D) (d10 : D ≤ 10) : F_232 c a r = some (bs (cA c 20 a) r D) := by
  unfold F_232
  exact gl_232 (r := r) hD d10 D 0 (by omega)
/-- who lives in a room -/
def li1 (S : Nat → Int32) (r : Int32) (h : Nat) : Int32 := if lv S h = 0 then 0 else if S (40 + 6 * h + 0) = r then 1 <<< (nI h &&& 31) else 0
def li (S : Nat → Int32) (r : Int32) : Nat → Int32
  | 0 => 0
  | n + 1 => li S r n ||| li1 S r n
theorem gl_234 {r : Int32} {H : Nat} (hH : cA c 20 a 2 = nI H) (h6 : H ≤ 6) : ∀ m i, i + m = H → G_234 c a 0 [r, li (cA c 20 a) r i, nI i] [] [] = some (li (cA c 20 a) r H)
  | 0, i, hi => by
    have : i = H := by omega
    subst this
    rw [G_234]
    rw [al_2]
    show (if cA c 20 a 2 ≤ nI i then _ else _) = _
    rw [if_pos (by rw [hH]; exact nI_le (Nat.le_refl _) (by omega))]
  | m + 1, i, hi => by
    have ih := gl_234 (r := r) hH h6 m (i + 1) (by omega)
    have hs : ((if lv (cA c 20 a) i = 0 then some 0 else F_223 c a (nI i) 0 >>= fun r7 => if r7 = r then some (1 <<< (nI i &&& 31)) else some 0) : Option Int32) = some (li1 (cA c 20 a) r i) := by
      unfold li1
      by_cases q : lv (cA c 20 a) i = 0
      · rw [if_pos q, if_pos q]
      · rw [if_neg q, if_neg q]
        refine ob_mk (f_223 (w := 0) (by omega) (by decide)) ?_
        by_cases q2 : cA c 20 a (40 + 6 * i + 0) = r
        · rw [if_pos q2, if_pos q2]
        · rw [if_neg q2, if_neg q2]
    rw [← ih]
    conv => lhs; rw [G_234]
    rw [al_2]
    show (if cA c 20 a 2 ≤ nI i then _ else _) = _
    rw [if_neg (by rw [hH]; exact nI_ge (by omega) (by omega)), f_224 (by omega)]
    show (((if lv (cA c 20 a) i = 0 then some 0 else F_223 c a (nI i) 0 >>= fun r7 => if r7 = r then some (1 <<< (nI i &&& 31)) else some 0) : Option Int32) >>= fun t4 => G_234 c a 0 [r, li (cA c 20 a) r i ||| t4, nI i + 1] [] []) = _
    rw [hs, nI_1]
    rfl
theorem f_234 {r : Int32} {H : Nat} (hH : cA c 20 a 2 = nI H) (h6 : H ≤ 6) : F_234 c a r = some (li (cA c 20 a) r H) := by
  unfold F_234
  exact gl_234 (r := r) hH h6 H 0 (by omega)
end Besides
section State2
variable {c1 c8 : Cl} {st : Nat} {S : Nat → Int32} {R D H Q M : Nat} {K : Nat → Nat}
theorem gl_98 {r : Int32} (hN : SnR c1 c8 st S R D H Q M) (hS : ShR c1 c8 st S H) : ∀ m i, i + m = H → G_98 c1 c8 st 0 [r, li S r i, nI i] [] [] = some (li S r H)
  | 0, i, hi => by
    have : i = H := by omega
    subst this
    obtain ⟨-, -, ⟨h1, -, h6⟩, -⟩ := hN
    rw [G_98]
    rw [h1, if_pos (nI_le (Nat.le_refl _) (by omega))]
  | m + 1, i, hi => by
    have ih := gl_98 (r := r) hN hS m (i + 1) (by omega)
    obtain ⟨-, -, ⟨h1, -, h6⟩, -⟩ := hN
    have hs : ((if lv S i = 0 then some (li S r i) else ald (cA c8 4 st) 6 (nI i) >>= fun v7 => if v7 = r then some (li S r i ||| (1 <<< (nI i &&& 31))) else some (li S r i)) : Option Int32) = some (li S r (i + 1)) := by
      show _ = some (li S r i ||| li1 S r i)
      unfold li1
      by_cases q : lv S i = 0
      · rw [if_pos q, if_pos q, Int32.or_zero]
      · rw [if_neg q, if_neg q]
        refine ob_mk (ald_ok (by omega) (by decide)) ?_
        rw [(hS i (by omega)).1]
        by_cases q2 : S (40 + 6 * i + 0) = r
        · rw [if_pos q2, if_pos q2]
        · rw [if_neg q2, if_neg q2, Int32.or_zero]
    rw [← ih]
    conv => lhs; rw [G_98]
    rw [h1, if_neg (nI_ge (by omega) (by omega)), f_83 (by omega) h6 hS]
    show (((if lv S i = 0 then some (li S r i) else ald (cA c8 4 st) 6 (nI i) >>= fun v7 => if v7 = r then some (li S r i ||| (1 <<< (nI i &&& 31))) else some (li S r i)) : Option Int32) >>= fun t4 => G_98 c1 c8 st 0 [r, t4, nI i + 1] [] []) = _
    rw [hs, nI_1]
    rfl
theorem f_98 {r : Int32} (hN : SnR c1 c8 st S R D H Q M) (hS : ShR c1 c8 st S H) : F_98 c1 c8 st r = some (li S r H) := by
  unfold F_98
  exact gl_98 (r := r) hN hS H 0 (by omega)
end State2
