/-! ===== what the functions of the methods are made of ===== -/
abbrev mkw (c0 c1 c2 c3 c4 c5 c6 c7 c8 c9 c10 c11 c12 c13 : Cl) : Wd := (c0, c1, c2, c3, c4, c5, c6, c7, c8, c9, c10, c11, c12, c13)
/-- a word's kind by its letters: the row of words, letter by letter -/
def wd_go (tp : Nat → Int32) (s e : Int32) : List Int32 → Int32 → Int32 → Option Int32
  | [], _, _ => some 34
  | c :: cs, word, alike => if c = 32 then (if alike = e - s then some word else wd_go tp s e cs (word + 1) 0)
    else if 0 ≤ alike ∧ s + alike < e then ald tp 400 (s + alike) >>= fun t => if t = c then wd_go tp s e cs word (alike + 1) else wd_go tp s e cs word (-1)
    else wd_go tp s e cs word (-1)
def wordsL : List Int32 := [104, 101, 97, 100, 32, 104, 97, 108, 118, 101, 115, 32, 97, 116, 32, 104, 111, 109, 101, 32, 99, 97, 109, 101, 32, 104, 101, 114, 101, 32, 102, 101, 119, 32, 99, 114, 111, 119, 100, 32, 108, 101, 97, 115, 116, 32, 103, 114, 101, 97, 116, 101, 115, 116, 32, 103, 111, 110, 101, 32, 109, 105, 110, 117, 116, 101, 32, 114, 111, 111, 109, 115, 32, 100, 111, 111, 114, 32, 100, 101, 108, 97, 121, 32, 109, 111, 115, 116, 32, 115, 101, 110, 115, 101, 32, 108, 105, 110, 103, 101, 114, 32, 103, 111, 32, 105, 102, 32, 97, 110, 100, 32, 111, 114, 32, 110, 111, 116, 32]
def F_26 (c3 c11 : Cl) (a0 : Nat) (p1 p2 : Int32) : Option Int32 := wd_go (cA c11 0 (cR c3 0 a0)) p1 p2 wordsL 0 0
def sp_word (as : List Value) (h : UH) (res : UR) : Prop := ∃ (w : Wd) (d : Ad) (a0 : Nat) (s e v : Int32), as = [.ref a0, .int s, .int e] ∧ HW w d h ∧ aK d a0 = (0, 3, 0) ∧ F_26 (wg 3 w) (wg 11 w) a0 s e = some v ∧ res = (some (.int v), h)
def u_sp (mi : Nat) (as : List Value) (h : UH) (res : UR) : Prop := (mi = 305 ∧ sp_copy as h res) ∨ (mi = 26 ∧ sp_word as h res)
abbrev EX : Nat → Nat → List Value → UH → UR → Prop := Ex u_mt u_cd u_sp
theorem ex_in {D m nL : Nat} {kl : List (Nat × UI × Nat)} {as : List Value} {h : UH} {Q : UR → Prop} (h1 : u_cd m = u_at kl) (h2 : (u_mt m).2.2.1 = nL) (h3 : (lg_sl as).length ≤ nL) (k : Ends (EX D) (u_at kl) (0, u_ent nL as, [], h) Q) : ∃ q, EX (D + 1) m as h q ∧ Q q := by
  obtain ⟨n, q, hn, hq⟩ := k
  refine ⟨q, Or.inr ⟨by rw [h2]; exact h3, n, ?_⟩, hq⟩
  rw [h1, h2]
  exact hn
theorem e_26 {D : Nat} {c0 c1 c2 c3 c4 c5 c6 c7 c8 c9 c10 c11 c12 c13 : Cl} {d : Ad} {h : UH} {a0 : Nat} {p1 p2 r : Int32} (hD : 1 ≤ D) (hW : HW (mkw c0 c1 c2 c3 c4 c5 c6 c7 c8 c9 c10 c11 c12 c13) d h) (ha0 : aK d a0 = (0, 3, 0)) (hF : F_26 c3 c11 a0 p1 p2 = some r) : ∃ q, EX D 26 [.ref a0, .int p1, .int p2] h q ∧ q.1 = some (.int r) ∧ h = q.2 := by
  obtain ⟨D, rfl⟩ : ∃ E, D = E + 1 := ⟨D - 1, by omega⟩
  exact ⟨_, Or.inl (Or.inr ⟨rfl, _, d, a0, p1, p2, r, rfl, hW, ha0, hF, rfl⟩), rfl, rfl⟩
def zb (x : Int32) : Option Int32 := if x = 0 ∨ x = 1 then some x else none
def imax (x y : Int32) : Int32 := if y ≤ x then x else y
def imin (x y : Int32) : Int32 := if x ≤ y then x else y
def iush (x y : Int32) : Int32 := (x.toUInt32 >>> (y.toUInt32 &&& Int32.toUInt32 31)).toInt32
def filf {α : Type} (n : Nat) (v : α) (f : Nat → α) : Nat → α := fun j => if j < n then v else f j
theorem i_pos {α : Type} {c : Prop} [Decidable c] {a b : Option α} {r : α} (hc : c) (h : (if c then a else b) = some r) : a = some r := by rw [if_pos hc] at h; exact h
theorem i_neg {α : Type} {c : Prop} [Decidable c] {a b : Option α} {r : α} (hc : ¬ c) (h : (if c then a else b) = some r) : b = some r := by rw [if_neg hc] at h; exact h
theorem fg_0 : u_fg [] [] := ⟨rfl, fun _ _ h => h⟩
theorem fg_k {a : Option Value} {l l' : List (Option Value)} (h : u_fg l l') : u_fg (a :: l) (a :: l') := by
  refine ⟨by simp [h.1], fun i v hv => ?_⟩
  match i, hv with
  | 0, hv => exact hv
  | i + 1, hv => exact h.2 i v hv
theorem fg_d {a : Option Value} {l l' : List (Option Value)} (h : u_fg l l') : u_fg (a :: l) (none :: l') := by
  refine ⟨by simp [h.1], fun i v hv => ?_⟩
  match i, hv with
  | 0, hv => cases hv
  | i + 1, hv => exact h.2 i v hv
theorem en_retZ {call : Nat → List Value → UH → UR → Prop} {code : Nat → Option UI} {pc : Nat} {L : List (Option Value)} {h : UH} {Q : UR → Prop} {x v : Int32} (hc : code pc = some (.ireturn, [1])) (hv : zb x = some v) (hq : Q (some (.int v), h)) : Ends call code (pc, L, [.int x], h) Q := by
  unfold zb at hv
  split at hv
  · rename_i e
    cases hv
    exact en_ret hc (show (if x = 0 ∨ x = 1 then some (.inr (some (.int x), h)) else none : UO) = _ by rw [if_pos e]) hq
  · cases hv
/-- a world after, with more cells than before -/
abbrev HX (d : Ad) (w : Wd) (e : Ad) (h : UH) : Prop := HW w e h ∧ Adx d e
theorem e_imax {D : Nat} {h : UH} {x y : Int32} (hD : 1 ≤ D) : ∃ q, EX D 301 [.int x, .int y] h q ∧ q.1 = some (.int (imax x y)) ∧ h = q.2 := by
  obtain ⟨D, rfl⟩ : ∃ E, D = E + 1 := ⟨D - 1, by omega⟩
  refine ex_in (kl := kl_301) (nL := 2) rfl (by decide +kernel) (Nat.le_of_ble_eq_true rfl) ?_
  show Ends (EX D) (u_at kl_301) (0, [some (.int x), some (.int y)], [], h) _
  refine en_segs [(0, .iload_n 0, []), (1, .iload_n 1, [])] (by decide +kernel) (y := (2, [some (.int x), some (.int y)], [.int y, .int x], h)) rfl ?_
  refine en_ic_lt (by decide +kernel : u_at kl_301 2 = some (.if_icmp .lt 7, [9])) (fun b => ?_) (fun b => ?_)
  · refine en_segs [(9, .iload_n 1, [])] (by decide +kernel) (y := (10, [some (.int x), some (.int y)], [.int y], h)) rfl ?_
    exact en_ret (by decide +kernel : u_at kl_301 10 = some (.ireturn, [0])) rfl ⟨by unfold imax; rw [if_neg (Int32.not_le.mpr b)], rfl⟩
  · refine en_segs [(5, .iload_n 0, []), (6, .goto 4, [10])] (by decide +kernel) (y := (10, [some (.int x), some (.int y)], [.int x], h)) rfl ?_
    exact en_ret (by decide +kernel : u_at kl_301 10 = some (.ireturn, [0])) rfl ⟨by unfold imax; rw [if_pos (Int32.not_lt.mp b)], rfl⟩
theorem e_imin {D : Nat} {h : UH} {x y : Int32} (hD : 1 ≤ D) : ∃ q, EX D 302 [.int x, .int y] h q ∧ q.1 = some (.int (imin x y)) ∧ h = q.2 := by
  obtain ⟨D, rfl⟩ : ∃ E, D = E + 1 := ⟨D - 1, by omega⟩
  refine ex_in (kl := kl_302) (nL := 2) rfl (by decide +kernel) (Nat.le_of_ble_eq_true rfl) ?_
  show Ends (EX D) (u_at kl_302) (0, [some (.int x), some (.int y)], [], h) _
  refine en_segs [(0, .iload_n 0, []), (1, .iload_n 1, [])] (by decide +kernel) (y := (2, [some (.int x), some (.int y)], [.int y, .int x], h)) rfl ?_
  refine en_ic_gt (by decide +kernel : u_at kl_302 2 = some (.if_icmp .gt 7, [9])) (fun b => ?_) (fun b => ?_)
  · refine en_segs [(9, .iload_n 1, [])] (by decide +kernel) (y := (10, [some (.int x), some (.int y)], [.int y], h)) rfl ?_
    exact en_ret (by decide +kernel : u_at kl_302 10 = some (.ireturn, [0])) rfl ⟨by unfold imin; rw [if_neg (Int32.not_le.mpr b)], rfl⟩
  · refine en_segs [(5, .iload_n 0, []), (6, .goto 4, [10])] (by decide +kernel) (y := (10, [some (.int x), some (.int y)], [.int x], h)) rfl ?_
    exact en_ret (by decide +kernel : u_at kl_302 10 = some (.ireturn, [0])) rfl ⟨by unfold imin; rw [if_pos (Int32.not_lt.mp b)], rfl⟩
/-- fill of ints, at any array -/
theorem u_fillI {D : Nat} {q N : Nat} {v : Int32} (hN : N < 2 ^ 31) (h : UH) (f : Nat → Int32) (he : h.1 q = .inl (1, N, .inl f)) : ∃ r, EX (D + 1) 304 [.ref q, .int v] h r ∧ r = (none, (va_up h.1 q (.inl (1, N, .inl (filf N v f))), h.2.1, h.2.2)) := by
  refine ex_in (kl := kl_304) (nL := 4) rfl (by decide +kernel) (Nat.le_of_ble_eq_true rfl) ?_
  show Ends (EX D) (u_at kl_304) (0, [some (.ref q), some (.int v), none, none], [], h) _
  refine en_segs [(0, .iconst 0, []), (1, .istore_n 2, []), (2, .aload_n 0, [])] (by decide +kernel) (y := (3, [some (.ref q), some (.int v), some (.int 0), none], [.ref q], h)) rfl ?_
  refine en_len0 (n := N) (v := nI N) (by decide +kernel : u_at kl_304 3 = some (.arraylength, [])) (by unfold u_len; rw [he]; rfl) rfl ?_
  refine en_segs [(4, .istore_n 3, [])] (by decide +kernel) (y := (5, [some (.ref q), some (.int v), some (.int 0), some (.int (nI N))], [], h)) rfl ?_
  have main : ∀ (k i : Nat) (hh : UH) (g : Nat → Int32), i + k = N → hh.1 q = .inl (1, N, .inl g) → (∀ a, a ≠ q → hh.1 a = h.1 a) → hh.2 = h.2 → (∀ j, j < i → g j = v) → (∀ j, i ≤ j → g j = f j) → Ends (EX D) (u_at kl_304) (5, [some (.ref q), some (.int v), some (.int (nI i)), some (.int (nI N))], [], hh) (fun r => r = (none, (va_up h.1 q (.inl (1, N, .inl (filf N v f))), h.2.1, h.2.2))) := by
    intro k
    induction k with
    | zero =>
      intro i hh g hi e1 e2 e3 e4 e5
      have hiN : i = N := by omega
      subst hiN
      refine en_segs [(5, .iload_n 2, []), (6, .iload_n 3, [])] (by decide +kernel) (y := (7, [some (.ref q), some (.int v), some (.int (nI i)), some (.int (nI i))], [.int (nI i), .int (nI i)], hh)) rfl ?_
      refine en_ic_ge (by decide +kernel : u_at kl_304 7 = some (.if_icmp .ge 13, [20])) (fun _ => ?_) (fun b => absurd (Int32.le_refl _) b)
      refine en_ret (by decide +kernel : u_at kl_304 20 = some (.return_, [])) rfl ?_
      refine Prod.ext rfl (Prod.ext (funext fun a => ?_) e3)
      show hh.1 a = va_up h.1 q _ a
      unfold va_up
      by_cases ha : a = q
      · rw [if_pos ha, ha, e1]
        congr 4
        funext j
        unfold filf
        split
        · rename_i z; exact e4 j z
        · rename_i z; exact e5 j (by omega)
      · rw [if_neg ha, e2 a ha]
    | succ k ihk =>
      intro i hh g hi e1 e2 e3 e4 e5
      refine en_segs [(5, .iload_n 2, []), (6, .iload_n 3, [])] (by decide +kernel) (y := (7, [some (.ref q), some (.int v), some (.int (nI i)), some (.int (nI N))], [.int (nI N), .int (nI i)], hh)) rfl ?_
      refine en_ic_ge (by decide +kernel : u_at kl_304 7 = some (.if_icmp .ge 13, [20])) (fun b => absurd b (nI_ge (by omega) hN)) (fun _ => ?_)
      refine en_segs [(10, .aload_n 0, []), (11, .iload_n 2, []), (12, .iload_n 1, [])] (by decide +kernel) (y := (13, [some (.ref q), some (.int v), some (.int (nI i)), some (.int (nI N))], [.int v, .int (nI i), .ref q], hh)) rfl ?_
      refine en_as0 (e := .inl (1, N, .inl (upd g i v))) (m := 1) (by decide +kernel : u_at kl_304 13 = some (.iastore, [])) (fun _ => rfl) ?_ ?_
      · unfold u_ast
        rw [e1]
        simp only []
        rw [if_neg (nI_in (by omega) hN), if_pos trivial, nI_clamp (by omega)]
      · refine en_segs [(14, .iinc 2 1, []), (17, .goto (-12), [5])] (by decide +kernel) (y := (5, [some (.ref q), some (.int v), some (.int (nI i + 1)), some (.int (nI N))], [], (va_up hh.1 q (.inl (1, N, .inl (upd g i v))), hh.2.1, hh.2.2))) rfl ?_
        rw [nI_1]
        refine ihk (i + 1) _ (upd g i v) (by omega) (by show va_up hh.1 q _ q = _; unfold va_up; rw [if_pos rfl]) (fun a ha => by show va_up hh.1 q _ a = _; unfold va_up; rw [if_neg ha, e2 a ha]) (by show (hh.2.1, hh.2.2) = _; rw [e3]) (fun j hj => ?_) (fun j hj => ?_)
        · unfold upd
          by_cases z : j = i
          · rw [if_pos z]
          · rw [if_neg z]; exact e4 j (by omega)
        · unfold upd
          rw [if_neg (by omega)]; exact e5 j (by omega)
  exact main N 0 h f (by omega) he (fun a _ => rfl) rfl (fun j hj => absurd hj (Nat.not_lt_zero j)) (fun j _ => rfl)
theorem e_fillI {D : Nat} {w : Wd} {d : Ad} {h : UH} {c k a n : Nat} {v : Int32} (hD : 1 ≤ D) (hW : HW w d h) (hk : aK d a = (0, c, 0)) (hs : sd c k = (3, 1, n)) (hn : k < nsl c) (hN : n < 2 ^ 31 := by decide) : ∃ q, EX D 304 [.ref (aP d c k a), .int v] h q ∧ q.1 = none ∧ HW (ws c w (sA (wg c w) k a (filf n v (cA (wg c w) k a)))) d q.2 := by
  obtain ⟨D, rfl⟩ : ∃ E, D = E + 1 := ⟨D - 1, by omega⟩
  obtain ⟨r, h1, rfl⟩ := u_fillI (D := D) (v := v) hN h (cA (wg c w) k a) (hw_arr hW hk hs hn).1
  exact ⟨_, h1, rfl, hw_row hW hk hs hn rfl rfl rfl rfl (fun j b z => up2_ne _ _ z) (fun j b z => rfl) (by simp only [arrc, sA, cA]; rw [up2_same])⟩
theorem e_ffillI {D : Nat} {w : Wd} {d : Ad} {h : UH} {p : Nat} {v : Int32} (hD : 1 ≤ D) (hW : HW w d h) (hk : aK d p = (2, 1, 0)) : ∃ q, EX D 304 [.ref p, .int v] h q ∧ q.1 = none ∧ HW (ws 13 w (sA (wg 13 w) 0 p (filf (aN d p) v (cA (wg 13 w) 0 p)))) d q.2 := by
  obtain ⟨D, rfl⟩ : ∃ E, D = E + 1 := ⟨D - 1, by omega⟩
  have hN : aN d p < 2 ^ 31 := by have := hW.2.2.2.2.2.2.2 p 1 0 hk; omega
  obtain ⟨r, h1, rfl⟩ := u_fillI (D := D) (v := v) hN h (cA (wg 13 w) 0 p) (hw_free hW hk)
  exact ⟨_, h1, rfl, hw_frow hW hk rfl (fun j b z => up2_ne _ _ z) (fun j b z => rfl) (by simp only [arrc, sA, cA]; rw [up2_same])⟩
/-- fill of longs, at any array -/
theorem u_fillL {D : Nat} {q N : Nat} {v : Int64} (hN : N < 2 ^ 31) (h : UH) (f : Nat → Int64) (he : h.1 q = .inl (2, N, .inr (.inl f))) : ∃ r, EX (D + 1) 303 [.ref q, .long v] h r ∧ r = (none, (va_up h.1 q (.inl (2, N, .inr (.inl (filf N v f)))), h.2.1, h.2.2)) := by
  refine ex_in (kl := kl_303) (nL := 5) rfl (by decide +kernel) (Nat.le_of_ble_eq_true rfl) ?_
  show Ends (EX D) (u_at kl_303) (0, [some (.ref q), some (.long v), none, none, none], [], h) _
  refine en_segs [(0, .iconst 0, []), (1, .istore_n 3, []), (2, .aload_n 0, [])] (by decide +kernel) (y := (3, [some (.ref q), some (.long v), none, some (.int 0), none], [.ref q], h)) rfl ?_
  refine en_len0 (n := N) (v := nI N) (by decide +kernel : u_at kl_303 3 = some (.arraylength, [])) (by unfold u_len; rw [he]; rfl) rfl ?_
  refine en_segs [(4, .istore 4, [])] (by decide +kernel) (y := (6, [some (.ref q), some (.long v), none, some (.int 0), some (.int (nI N))], [], h)) rfl ?_
  have main : ∀ (k i : Nat) (hh : UH) (g : Nat → Int64), i + k = N → hh.1 q = .inl (2, N, .inr (.inl g)) → (∀ a, a ≠ q → hh.1 a = h.1 a) → hh.2 = h.2 → (∀ j, j < i → g j = v) → (∀ j, i ≤ j → g j = f j) → Ends (EX D) (u_at kl_303) (6, [some (.ref q), some (.long v), none, some (.int (nI i)), some (.int (nI N))], [], hh) (fun r => r = (none, (va_up h.1 q (.inl (2, N, .inr (.inl (filf N v f)))), h.2.1, h.2.2))) := by
    intro k
    induction k with
    | zero =>
      intro i hh g hi e1 e2 e3 e4 e5
      have hiN : i = N := by omega
      subst hiN
      refine en_segs [(6, .iload_n 3, []), (7, .iload 4, [])] (by decide +kernel) (y := (9, [some (.ref q), some (.long v), none, some (.int (nI i)), some (.int (nI i))], [.int (nI i), .int (nI i)], hh)) rfl ?_
      refine en_ic_ge (by decide +kernel : u_at kl_303 9 = some (.if_icmp .ge 13, [22])) (fun _ => ?_) (fun b => absurd (Int32.le_refl _) b)
      refine en_ret (by decide +kernel : u_at kl_303 22 = some (.return_, [])) rfl ?_
      refine Prod.ext rfl (Prod.ext (funext fun a => ?_) e3)
      show hh.1 a = va_up h.1 q _ a
      unfold va_up
      by_cases ha : a = q
      · rw [if_pos ha, ha, e1]
        congr 5
        funext j
        unfold filf
        split
        · rename_i z; exact e4 j z
        · rename_i z; exact e5 j (by omega)
      · rw [if_neg ha, e2 a ha]
    | succ k ihk =>
      intro i hh g hi e1 e2 e3 e4 e5
      refine en_segs [(6, .iload_n 3, []), (7, .iload 4, [])] (by decide +kernel) (y := (9, [some (.ref q), some (.long v), none, some (.int (nI i)), some (.int (nI N))], [.int (nI N), .int (nI i)], hh)) rfl ?_
      refine en_ic_ge (by decide +kernel : u_at kl_303 9 = some (.if_icmp .ge 13, [22])) (fun b => absurd b (nI_ge (by omega) hN)) (fun _ => ?_)
      refine en_segs [(12, .aload_n 0, []), (13, .iload_n 3, []), (14, .lload_n 1, [])] (by decide +kernel) (y := (15, [some (.ref q), some (.long v), none, some (.int (nI i)), some (.int (nI N))], [.long v, .int (nI i), .ref q], hh)) rfl ?_
      refine en_as0 (e := .inl (2, N, .inr (.inl (vp_updL g i v)))) (m := 2) (by decide +kernel : u_at kl_303 15 = some (.lastore, [])) (fun _ => rfl) ?_ ?_
      · unfold u_ast
        rw [e1]
        simp only []
        rw [if_neg (nI_in (by omega) hN), if_pos (by decide), nI_clamp (by omega)]
      · refine en_segs [(16, .iinc 3 1, []), (19, .goto (-13), [6])] (by decide +kernel) (y := (6, [some (.ref q), some (.long v), none, some (.int (nI i + 1)), some (.int (nI N))], [], (va_up hh.1 q (.inl (2, N, .inr (.inl (vp_updL g i v)))), hh.2.1, hh.2.2))) rfl ?_
        rw [nI_1]
        refine ihk (i + 1) _ (vp_updL g i v) (by omega) (by show va_up hh.1 q _ q = _; unfold va_up; rw [if_pos rfl]) (fun a ha => by show va_up hh.1 q _ a = _; unfold va_up; rw [if_neg ha, e2 a ha]) (by show (hh.2.1, hh.2.2) = _; rw [e3]) (fun j hj => ?_) (fun j hj => ?_)
        · unfold vp_updL
          by_cases z : j = i
          · rw [if_pos z]
          · rw [if_neg z]; exact e4 j (by omega)
        · unfold vp_updL
          rw [if_neg (by omega)]; exact e5 j (by omega)
  exact main N 0 h f (by omega) he (fun a _ => rfl) rfl (fun j hj => absurd hj (Nat.not_lt_zero j)) (fun j _ => rfl)
theorem e_fillL {D : Nat} {w : Wd} {d : Ad} {h : UH} {c k a n : Nat} {v : Int64} (hD : 1 ≤ D) (hW : HW w d h) (hk : aK d a = (0, c, 0)) (hs : sd c k = (3, 2, n)) (hn : k < nsl c) (hN : n < 2 ^ 31 := by decide) : ∃ q, EX D 303 [.ref (aP d c k a), .long v] h q ∧ q.1 = none ∧ HW (ws c w (sB (wg c w) k a (filf n v (cB (wg c w) k a)))) d q.2 := by
  obtain ⟨D, rfl⟩ : ∃ E, D = E + 1 := ⟨D - 1, by omega⟩
  obtain ⟨r, h1, rfl⟩ := u_fillL (D := D) (v := v) hN h (cB (wg c w) k a) (hw_arr hW hk hs hn).1
  exact ⟨_, h1, rfl, hw_row hW hk hs hn rfl rfl rfl rfl (fun j b z => rfl) (fun j b z => up2_ne _ _ z) (by simp only [arrc, sB, cB]; rw [up2_same])⟩
theorem e_ffillL {D : Nat} {w : Wd} {d : Ad} {h : UH} {p : Nat} {v : Int64} (hD : 1 ≤ D) (hW : HW w d h) (hk : aK d p = (2, 2, 0)) : ∃ q, EX D 303 [.ref p, .long v] h q ∧ q.1 = none ∧ HW (ws 13 w (sB (wg 13 w) 0 p (filf (aN d p) v (cB (wg 13 w) 0 p)))) d q.2 := by
  obtain ⟨D, rfl⟩ : ∃ E, D = E + 1 := ⟨D - 1, by omega⟩
  have hN : aN d p < 2 ^ 31 := by have := hW.2.2.2.2.2.2.2 p 2 0 hk; omega
  obtain ⟨r, h1, rfl⟩ := u_fillL (D := D) (v := v) hN h (cB (wg 13 w) 0 p) (hw_free hW hk)
  exact ⟨_, h1, rfl, hw_frow hW hk rfl (fun j b z => rfl) (fun j b z => up2_ne _ _ z) (by simp only [arrc, sB, cB]; rw [up2_same])⟩
