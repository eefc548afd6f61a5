theorem ow11_w {w : Wd} {d e : Ad} {h : UH} {a0 : Nat} (hW : HW w d h) (h1 : Adw a0 d e) : Adw a0 d (ow11 e a0 (aX d)) := by
  refine ⟨h1.1, fun a g ha => ?_, fun a c k g ha => ?_, h1.2.2.2.1, h1.2.2.2.2.1, h1.2.2.2.2.2.1, h1.2.2.2.2.2.2.1, h1.2.2.2.2.2.2.2⟩
  · have hl : a < aX d := Classical.byContradiction fun q => ha (hW.2.2.2.2.2.2.1 a (Nat.le_of_not_lt q))
    have nj : ∀ j, a ≠ aX d + j := fun j => Nat.ne_of_lt (Nat.lt_of_lt_of_le hl (Nat.le_add_right _ _))
    rw [ow11_K, if_neg g, if_neg (nj 1), if_neg (nj 5), if_neg (nj 6), if_neg (Nat.ne_of_lt hl), if_neg (nj 2), if_neg (nj 3), if_neg (nj 4), if_neg (nj 7), if_neg (nj 8), if_neg (nj 9), if_neg (nj 10), if_neg (nj 256)]
    exact h1.2.1 a g ha
  · have hl := hw_old hW ha (show (0 : Nat) ≠ 9 by decide)
    have nj : ∀ j, a ≠ aX d + j := fun j => Nat.ne_of_lt (Nat.lt_of_lt_of_le hl (Nat.le_add_right _ _))
    rw [ow11_P, if_neg g, if_neg (nj 1), if_neg (nj 6)]
    exact h1.2.2.1 a c k g ha
theorem ow11_F {e : Ad} {a X j t : Nat} (hj : j = 277 ∨ j = 278 ∨ j = 279 ∨ j = 280 ∨ j = 289 ∨ j = 290) (hk : aK e (X + j) = (2, t, 0)) (ha : a < X) : aK (ow11 e a X) (X + j) = (2, t, 0) := by
  have nj : ∀ i, i ≠ j → X + j ≠ X + i := fun i h q => h (Nat.add_left_cancel q).symm
  have h0 : X + j ≠ X := fun q => by rcases hj with rfl | rfl | rfl | rfl | rfl | rfl <;> exact absurd (Nat.add_left_cancel (q.trans (Nat.add_zero X).symm)) (by decide)
  have n1 : ∀ i, i < 260 → i ≠ j := fun i hi q => by subst q; rcases hj with rfl | rfl | rfl | rfl | rfl | rfl <;> exact absurd hi (by decide)
  rw [ow11_K, if_neg (Nat.ne_of_gt (Nat.lt_of_lt_of_le ha (Nat.le_add_right _ _))), if_neg (nj 1 (n1 1 (by decide))), if_neg (nj 5 (n1 5 (by decide))), if_neg (nj 6 (n1 6 (by decide))), if_neg h0, if_neg (nj 2 (n1 2 (by decide))), if_neg (nj 3 (n1 3 (by decide))), if_neg (nj 4 (n1 4 (by decide))), if_neg (nj 7 (n1 7 (by decide))), if_neg (nj 8 (n1 8 (by decide))), if_neg (nj 9 (n1 9 (by decide))), if_neg (nj 10 (n1 10 (by decide))), if_neg (nj 256 (n1 256 (by decide)))]
  exact hk
/-! the world's constructor ends: what it makes -/
def wS (c8 : Cl) (B a1 : Nat) : Nat → Cl
  | 0 => c8
  | n + 1 => nC_8 (wS c8 B a1 n) (B + 11 * n) a1
def wQ (c10 : Cl) (a0 B : Nat) : Nat → Cl
  | 0 => c10
  | n + 1 => sQ (wQ c10 a0 B n) 1 a0 (va_up (cQ (wQ c10 a0 B n) 1 a0) n (some (B + 11 * n)))
theorem i20 : ∀ n, n < 20 → ¬ (20 : Int32) ≤ Int32.ofNat n ∧ ¬ (Int32.ofNat n < 0 ∨ 20 ≤ (Int32.ofNat n).toNatClampNeg) ∧ (Int32.ofNat n).toNatClampNeg = n ∧ Int32.ofNat n + 1 = Int32.ofNat (n + 1) := by decide +kernel
theorem gw_116 {c8 c10 : Cl} {a0 a1 B S : Nat} : ∀ (m n : Nat), n + m = 20 → ∀ d : Ad, aX d = B + 11 * n → aS d = S + 128 * n → ∃ e, G_116 a0 a1 0 [Int32.ofNat n] [] [] (wS c8 B a1 n) (wQ c10 a0 B n) d = some (wS c8 B a1 20, wQ c10 a0 B 20, e) ∧ aX e = B + 220 ∧ aS e = S + 2560
  | 0, n, hn, d, hX, hS => by
    have : n = 20 := by omega
    subst this
    refine ⟨d, ?_, by omega, by omega⟩
    rw [G_116]
    rw [if_pos (by decide)]
  | m + 1, n, hn, d, hX, hS => by
    obtain ⟨h1, h2, h3, h4⟩ := i20 n (by omega)
    have x1 := nD_8_x (adr d 8) (aX d) a1
    have x2 := ox_r d 8
    have s1 := nD_8_s (adr d 8) (aX d) a1
    have s2 := os_r d 8
    have s3 : (u_def 8).length = 14 := rfl
    obtain ⟨e, h5, h6, h7⟩ := gw_116 (c8 := c8) (c10 := c10) (a0 := a0) (a1 := a1) (B := B) (S := S) m (n + 1) (by omega) (nD_8 (adr d 8) (aX d) a1) (by omega) (by omega)
    refine ⟨e, ?_, h6, h7⟩
    rw [G_116]
    rw [if_neg h1]
    show (asq (wQ c10 a0 B n) 1 a0 20 (Int32.ofNat n) (aX d) >>= fun c => G_116 a0 a1 0 [Int32.ofNat n + 1] [] [] (nC_8 (wS c8 B a1 n) (aX d) a1) c (nD_8 (adr d 8) (aX d) a1)) = _
    have e1 : asq (wQ c10 a0 B n) 1 a0 20 (Int32.ofNat n) (aX d) = some (wQ c10 a0 B (n + 1)) := by
      unfold asq
      rw [if_neg h2, h3, hX]; rfl
    rw [e1, h4]
    have e2 : nC_8 (wS c8 B a1 n) (aX d) a1 = wS c8 B a1 (n + 1) := by rw [hX]; rfl
    rw [e2]
    exact h5
theorem fw_116 {c8 c10 : Cl} {d : Ad} {a0 a1 : Nat} : ∃ r, F_116 c8 c10 d a0 a1 = some r ∧ aX r.2.2 = aX d + 235 ∧ aS r.2.2 = aS d + 2744 ∧ r.1 = wS (nC_8 c8 (aX d + 4) a1) (aX d + 15) a1 20 ∧ r.2.1 = wQ (sR (zat c10 a0) 0 a0 (aX d + 4)) a0 (aX d + 15) 20 := by
  have x1 := pD_10_x d a0 a1
  have s1 := pD_10_s d a0 a1
  obtain ⟨e, h5, h6, h7⟩ := gw_116 (c8 := nC_8 c8 (aX d + 4) a1) (c10 := sR (zat c10 a0) 0 a0 (aX d + 4)) (a0 := a0) (a1 := a1) (B := aX d + 15) (S := aS d + 184) 20 0 rfl (pD_10 d a0 a1) (by omega) (by omega)
  exact ⟨_, h5, by show aX e = _; omega, by show aS e = _; omega, rfl, rfl⟩
set_option maxRecDepth 100000 in
set_option maxHeartbeats 4000000 in
theorem e_122 {D : Nat} {c0 c1 c2 c3 c4 c5 c6 c7 c8 c9 c10 c11 c12 c13 : Cl} {d : Ad} {h : UH} {a0 : Nat} (hD : 4 ≤ D) (hW : HW (mkw c0 c1 c2 c3 c4 c5 c6 c7 c8 c9 c10 c11 c12 c13) d h) (ha0 : aK d a0 = (3, 11, 0)) (hf : aF d a0 = u_def 11) : ∃ q, EX D 122 [.ref a0] h q ∧ q.1 = none ∧ ∃ (rr : Cl × Cl × Ad) (e u v : Ad), HW (mkw (nC_0 c0 (aX d + 284) (aX d + 268)) (nC_1 c1 (aX d + 12)) (xC_2 c2 a0 (aX d)) (xC_3 c3 a0 (aX d)) c4 (xC_5 c5 a0 (aX d)) (nC_6 c6 u (aX d + 268)) (nC_7 c7 (aX d + 281) (aX d + 268)) (nC_8 rr.1 (aX d + 257) (cR rr.1 0 (cR rr.2.1 0 (aX d + 11)))) (nC_9 c9 v (aX d + 285) (aX d + 268)) rr.2.1 (xC_11 c11 a0 (aX d)) c12 (nC13_9 (nC13_6 c13 u) v)) e q.2 ∧ aX u = aX d + 269 ∧ aX v = aX d + 286 ∧ rr.1 = wS (nC_8 c8 (aX d + 21 + 4) (aX d + 12)) (aX d + 21 + 15) (aX d + 12) 20 ∧ rr.2.1 = wQ (sR (zat c10 (aX d + 11)) 0 (aX d + 11) (aX d + 21 + 4)) (aX d + 11) (aX d + 21 + 15) 20 ∧ aX e = aX d + 293 ∧ aS e = aS d + 5505 ∧ Adw a0 d e ∧ aK e a0 = (0, 11, 0) ∧ (aN e (aX d + 277) = 0 ∧ aN e (aX d + 278) = 0 ∧ aN e (aX d + 279) = 0 ∧ aN e (aX d + 280) = 0 ∧ aN e (aX d + 289) = 64 ∧ aN e (aX d + 290) = 64) ∧ (aK e (aX d + 277) = (2, 2, 0) ∧ aK e (aX d + 278) = (2, 2, 0) ∧ aK e (aX d + 279) = (2, 1, 0) ∧ aK e (aX d + 280) = (2, 1, 0) ∧ aK e (aX d + 289) = (2, 2, 0) ∧ aK e (aX d + 290) = (2, 2, 0)) := by
  obtain ⟨D, rfl⟩ : ∃ E, D = E + 1 := ⟨D - 1, by omega⟩
  have hd0 := hW
  have hlt := hw_old hW ha0 (by decide)
  have W : Adw a0 d d := Adw.of Adx.rf
  refine ex_in (kl := kl_122) (nL := 1) rfl (by decide +kernel) (Nat.le_of_ble_eq_true rfl) ?_
  show Ends (EX D) (u_at kl_122) (0, [some (.ref a0)], [], h) _
  have hX : aX d = aX d + 0 := rfl
  have hS : aS d = aS d + 0 := rfl
  have hf : aF d a0 = [.null, .int 0, .null, .null, .null, .null, .int 0, .null, .null, .null, .long 0, .null, .null, .null, .null] := hf
  refine en_segs [(0, .aload_n 0, []), (1, .invokespecial 1, []), (4, .aload_n 0, []), (5, .sipush 400, [])] (by decide +kernel) (y := (8, [some (.ref a0)], [.int 400, .ref a0], h)) rfl ?_
  refine en_nzO (N := 400) (by decide +kernel : u_at kl_122 8 = some (.newarray .byte, [0])) hW (by decide +kernel) (by decide +kernel) rfl hX hS (fun h e1 hEe1 hW x k1 n2 hX1 hS1 => ?_)
  have hf := (x.w ha0).2.trans hf
  have ha0 := (x.w ha0).1
  have W := W.trans (Adw.of x)
  have hX : aX e1 = aX d + 1 := hX1
  have hS : aS e1 = aS d + 400 := hS1.trans (Nat.add_assoc _ _ _)
  refine en_putA (fs' := [.ref (aX d + 0), .int 0, .null, .null, .null, .null, .int 0, .null, .null, .null, .long 0, .null, .null, .null, .null]) (by decide +kernel : u_at kl_122 10 = some (.putfield 9, [11, 0, 3])) hW ha0 hf (Nat.le_of_ble_eq_true rfl) rfl rfl hX (fun h e2 hEe2 hW kq nq hX1 hf1 ha01 y => ?_)
  have hS : aS e2 = aS d + 400 := by rw [hEe2]; exact hS
  have k1 := (kq _).trans k1
  have n2 := (congrFun nq _).trans n2
  have W := W.trans y
  have hX := hX1
  have hf := hf1
  have ha0 := ha01
  refine en_segs [(13, .aload_n 0, [])] (by decide +kernel) (y := (14, [some (.ref a0)], [.ref a0], h)) rfl ?_
  refine en_newO (N := 8) (by decide +kernel : u_at kl_122 14 = some (.new 13, [3])) hW hX hS rfl (fun h e3 hEe3 hW x k3 f4 hX1 hS1 => ?_)
  have hf := (x.w ha0).2.trans hf
  have ha0 := (x.w ha0).1
  have n2 := (x.2.2.2.2.2.2.2 _ _ k1).trans n2
  have k1 := x.z k1
  have W := W.trans (Adw.of x)
  have hX : aX e3 = aX d + 2 := hX1
  have hS : aS e3 = aS d + 408 := hS1.trans (Nat.add_assoc _ _ _)
  refine en_segs [(17, .dup, []), (18, .aload_n 0, [])] (by decide +kernel) (y := (19, [some (.ref a0)], [.ref a0, .ref (aX d + 1), .ref (aX d + 1), .ref a0], h)) rfl ?_
  refine en_getr (v := .ref (aX d + 0)) (by decide +kernel : u_at kl_122 19 = some (.getfield 9, [11, 0])) hW ha0 (by rw [hf]; rfl) ?_
  refine en_iw (P := fun h => ∃ e, HW (mkw c0 c1 c2 c3 c4 c5 c6 c7 c8 c9 c10 c11 c12 c13) e h ∧ Adw (aX d + 1) e3 e ∧ aK e (aX d + 1) = (3, 3, 0) ∧ aF e (aX d + 1) = [.ref (aX d + 0), .int 0, .ref (aX e3 + 0), .ref (aX e3 + 1), .ref (aX e3 + 2), .int 0, .int 0, .int 0] ∧ aX e = aX e3 + 3 ∧ aS e = aS e3 + 1203 ∧ (aK e (aX e3 + 0) = (4, 1, 0) ∧ aN e (aX e3 + 0) = 401) ∧ (aK e (aX e3 + 1) = (4, 1, 0) ∧ aN e (aX e3 + 1) = 401) ∧ aK e (aX e3 + 2) = (4, 1, 0) ∧ aN e (aX e3 + 2) = 401) (r := [.ref (aX d + 1), .ref a0]) (by decide +kernel : u_at kl_122 22 = some (.invokespecial 15, [21, 1, 3])) hW k3 rfl rfl (Nat.le_of_ble_eq_true rfl) (e_21 (D := D) (a1 := (aX d + 0)) (by omega) hW k3 f4) (fun h q => ?_)
  obtain ⟨e4, hW, V5, kb, fb, hX1, hS1, ⟨k6, n7⟩, ⟨k8, n9⟩, ⟨k10, n11⟩⟩ := q
  rw [hX] at fb k6 n7 k8 n9 k10 n11
  replace k6 : aK e4 (aX d + 2) = (4, 1, 0) := k6
  replace n7 : aN e4 (aX d + 2) = 401 := n7
  replace k8 : aK e4 (aX d + 3) = (4, 1, 0) := k8
  replace n9 : aN e4 (aX d + 3) = 401 := n9
  replace k10 : aK e4 (aX d + 4) = (4, 1, 0) := k10
  replace n11 : aN e4 (aX d + 4) = 401 := n11
  have hf := (V5.w (show a0 ≠ aX d + 1 from (Nat.ne_of_lt (Nat.lt_of_lt_of_le hlt (Nat.le_add_right _ _)))) ha0).2.trans hf
  have ha0 := (V5.w (show a0 ≠ aX d + 1 from (Nat.ne_of_lt (Nat.lt_of_lt_of_le hlt (Nat.le_add_right _ _)))) ha0).1
  have n2 := (V5.2.2.2.2.2.2.2 _ _ (show aX d + 0 ≠ aX d + 1 from (fun q => absurd (Nat.add_left_cancel q) (by decide))) k1).trans n2
  have k1 := V5.z k3 k1
  have W := Adw.skip hd0 (Nat.le_add_right _ _) W V5
  have hX : aX e4 = aX d + 5 := (hX1.trans (congrArg (· + 3) hX)).trans (Nat.add_assoc _ _ _)
  have hS : aS e4 = aS d + 1611 := (hS1.trans (congrArg (· + 1203) hS)).trans (Nat.add_assoc _ _ _)
  have k3 := kb
  have f4 := fb
  have f4 : aF e4 (aX d + 1) = [.ref (aX d + 0), .int 0, .ref (aX d + 2), .ref (aX d + 3), .ref (aX d + 4), .int 0, .int 0, .int 0] := f4
  refine en_putA (fs' := [.ref (aX d + 0), .int 0, .ref (aX d + 1), .null, .null, .null, .int 0, .null, .null, .null, .long 0, .null, .null, .null, .null]) (by decide +kernel : u_at kl_122 25 = some (.putfield 18, [11, 2, 3])) hW ha0 hf (Nat.le_of_ble_eq_true rfl) rfl rfl hX (fun h e5 hEe5 hW kq nq hX1 hf1 ha01 y => ?_)
  have hS : aS e5 = aS d + 1611 := by rw [hEe5]; exact hS
  have f4 := (y.w (Nat.ne_of_gt (Nat.lt_of_lt_of_le hlt (Nat.le_add_right _ _))) k3).2.trans f4
  have k3 := (kq _).trans k3
  have k1 := (kq _).trans k1
  have n2 := (congrFun nq _).trans n2
  have k6 := (kq _).trans k6
  have n7 := (congrFun nq _).trans n7
  have k8 := (kq _).trans k8
  have n9 := (congrFun nq _).trans n9
  have k10 := (kq _).trans k10
  have n11 := (congrFun nq _).trans n11
  have W := W.trans y
  have hX := hX1
  have hf := hf1
  have ha0 := ha01
  refine en_segs [(28, .aload_n 0, [])] (by decide +kernel) (y := (29, [some (.ref a0)], [.ref a0], h)) rfl ?_
  refine en_newO (N := 2) (by decide +kernel : u_at kl_122 29 = some (.new 22, [2])) hW hX hS rfl (fun h e6 hEe6 hW x k12 f13 hX1 hS1 => ?_)
  have hf := (x.w ha0).2.trans hf
  have ha0 := (x.w ha0).1
  have f4 := (x.w k3).2.trans f4
  have k3 := (x.w k3).1
  have n2 := (x.2.2.2.2.2.2.2 _ _ k1).trans n2
  have k1 := x.z k1
  have n7 := (x.2.2.2.2.2.2.2 _ _ k6).trans n7
  have k6 := x.z k6
  have n9 := (x.2.2.2.2.2.2.2 _ _ k8).trans n9
  have k8 := x.z k8
  have n11 := (x.2.2.2.2.2.2.2 _ _ k10).trans n11
  have k10 := x.z k10
  have W := W.trans (Adw.of x)
  have hX : aX e6 = aX d + 6 := hX1
  have hS : aS e6 = aS d + 1613 := hS1.trans (Nat.add_assoc _ _ _)
  refine en_segs [(32, .dup, []), (33, .aload_n 0, [])] (by decide +kernel) (y := (34, [some (.ref a0)], [.ref a0, .ref (aX d + 5), .ref (aX d + 5), .ref a0], h)) rfl ?_
  refine en_getr (v := .ref (aX d + 1)) (by decide +kernel : u_at kl_122 34 = some (.getfield 18, [11, 2])) hW ha0 (by rw [hf]; rfl) ?_
  refine en_iw (P := fun h => ∃ e, HW (mkw c0 c1 c2 c3 c4 c5 c6 c7 c8 c9 c10 c11 c12 c13) e h ∧ Adw (aX d + 5) e6 e ∧ aK e (aX d + 5) = (3, 2, 0) ∧ aF e (aX d + 5) = [.ref (aX d + 1), .int 0] ∧ aX e = aX e6 + 0 ∧ aS e = aS e6 + 0) (r := [.ref (aX d + 5), .ref a0]) (by decide +kernel : u_at kl_122 37 = some (.invokespecial 24, [14, 1, 2])) hW k12 rfl rfl (Nat.le_of_ble_eq_true rfl) (e_14 (D := D) (a1 := (aX d + 1)) (by omega) hW k12 f13) (fun h q => ?_)
  obtain ⟨e7, hW, V14, kb, fb, hX1, hS1⟩ := q
  have hf := (V14.w (show a0 ≠ aX d + 5 from (Nat.ne_of_lt (Nat.lt_of_lt_of_le hlt (Nat.le_add_right _ _)))) ha0).2.trans hf
  have ha0 := (V14.w (show a0 ≠ aX d + 5 from (Nat.ne_of_lt (Nat.lt_of_lt_of_le hlt (Nat.le_add_right _ _)))) ha0).1
  have f4 := (V14.w (show aX d + 1 ≠ aX d + 5 from (fun q => absurd (Nat.add_left_cancel q) (by decide))) k3).2.trans f4
  have k3 := (V14.w (show aX d + 1 ≠ aX d + 5 from (fun q => absurd (Nat.add_left_cancel q) (by decide))) k3).1
  have n2 := (V14.2.2.2.2.2.2.2 _ _ (show aX d + 0 ≠ aX d + 5 from (fun q => absurd (Nat.add_left_cancel q) (by decide))) k1).trans n2
  have k1 := V14.z k12 k1
  have n7 := (V14.2.2.2.2.2.2.2 _ _ (show aX d + 2 ≠ aX d + 5 from (fun q => absurd (Nat.add_left_cancel q) (by decide))) k6).trans n7
  have k6 := V14.z k12 k6
  have n9 := (V14.2.2.2.2.2.2.2 _ _ (show aX d + 3 ≠ aX d + 5 from (fun q => absurd (Nat.add_left_cancel q) (by decide))) k8).trans n9
  have k8 := V14.z k12 k8
  have n11 := (V14.2.2.2.2.2.2.2 _ _ (show aX d + 4 ≠ aX d + 5 from (fun q => absurd (Nat.add_left_cancel q) (by decide))) k10).trans n11
  have k10 := V14.z k12 k10
  have W := Adw.skip hd0 (Nat.le_add_right _ _) W V14
  have hX : aX e7 = aX d + 6 := (hX1.trans (congrArg (· + 0) hX)).trans (Nat.add_assoc _ _ _)
  have hS : aS e7 = aS d + 1613 := (hS1.trans (congrArg (· + 0) hS)).trans (Nat.add_assoc _ _ _)
  have k12 := kb
  have f13 := fb
  have f13 : aF e7 (aX d + 5) = [.ref (aX d + 1), .int 0] := f13
  refine en_putA (fs' := [.ref (aX d + 0), .int 0, .ref (aX d + 1), .ref (aX d + 5), .null, .null, .int 0, .null, .null, .null, .long 0, .null, .null, .null, .null]) (by decide +kernel : u_at kl_122 40 = some (.putfield 27, [11, 3, 3])) hW ha0 hf (Nat.le_of_ble_eq_true rfl) rfl rfl hX (fun h e8 hEe8 hW kq nq hX1 hf1 ha01 y => ?_)
  have hS : aS e8 = aS d + 1613 := by rw [hEe8]; exact hS
  have f4 := (y.w (Nat.ne_of_gt (Nat.lt_of_lt_of_le hlt (Nat.le_add_right _ _))) k3).2.trans f4
  have k3 := (kq _).trans k3
  have f13 := (y.w (Nat.ne_of_gt (Nat.lt_of_lt_of_le hlt (Nat.le_add_right _ _))) k12).2.trans f13
  have k12 := (kq _).trans k12
  have k1 := (kq _).trans k1
  have n2 := (congrFun nq _).trans n2
  have k6 := (kq _).trans k6
  have n7 := (congrFun nq _).trans n7
  have k8 := (kq _).trans k8
  have n9 := (congrFun nq _).trans n9
  have k10 := (kq _).trans k10
  have n11 := (congrFun nq _).trans n11
  have W := W.trans y
  have hX := hX1
  have hf := hf1
  have ha0 := ha01
  refine en_segs [(43, .aload_n 0, [])] (by decide +kernel) (y := (44, [some (.ref a0)], [.ref a0], h)) rfl ?_
  refine en_newO (N := 6) (by decide +kernel : u_at kl_122 44 = some (.new 31, [5])) hW hX hS rfl (fun h e9 hEe9 hW x k15 f16 hX1 hS1 => ?_)
  have hf := (x.w ha0).2.trans hf
  have ha0 := (x.w ha0).1
  have f4 := (x.w k3).2.trans f4
  have k3 := (x.w k3).1
  have f13 := (x.w k12).2.trans f13
  have k12 := (x.w k12).1
  have n2 := (x.2.2.2.2.2.2.2 _ _ k1).trans n2
  have k1 := x.z k1
  have n7 := (x.2.2.2.2.2.2.2 _ _ k6).trans n7
  have k6 := x.z k6
  have n9 := (x.2.2.2.2.2.2.2 _ _ k8).trans n9
  have k8 := x.z k8
  have n11 := (x.2.2.2.2.2.2.2 _ _ k10).trans n11
  have k10 := x.z k10
  have W := W.trans (Adw.of x)
  have hX : aX e9 = aX d + 7 := hX1
  have hS : aS e9 = aS d + 1619 := hS1.trans (Nat.add_assoc _ _ _)
  refine en_segs [(47, .dup, []), (48, .aload_n 0, [])] (by decide +kernel) (y := (49, [some (.ref a0)], [.ref a0, .ref (aX d + 6), .ref (aX d + 6), .ref a0], h)) rfl ?_
  refine en_getr (v := .ref (aX d + 1)) (by decide +kernel : u_at kl_122 49 = some (.getfield 18, [11, 2])) hW ha0 (by rw [hf]; rfl) ?_
  refine en_iw (P := fun h => ∃ e, HW (mkw c0 c1 c2 c3 c4 c5 c6 c7 c8 c9 c10 c11 c12 c13) e h ∧ Adw (aX d + 6) e9 e ∧ aK e (aX d + 6) = (3, 5, 0) ∧ aF e (aX d + 6) = [.ref (aX d + 1), .ref (aX e9 + 0), .int 0, .int 0, .ref (aX e9 + 1), .ref (aX e9 + 2)] ∧ aX e = aX e9 + 3 ∧ aS e = aS e9 + 424 ∧ (aK e (aX e9 + 0) = (4, 1, 0) ∧ aN e (aX e9 + 0) = 400) ∧ (aK e (aX e9 + 1) = (4, 1, 0) ∧ aN e (aX e9 + 1) = 12) ∧ aK e (aX e9 + 2) = (4, 1, 0) ∧ aN e (aX e9 + 2) = 12) (r := [.ref (aX d + 6), .ref a0]) (by decide +kernel : u_at kl_122 52 = some (.invokespecial 33, [40, 1, 5])) hW k15 rfl rfl (Nat.le_of_ble_eq_true rfl) (e_40 (D := D) (a1 := (aX d + 1)) (by omega) hW k15 f16) (fun h q => ?_)
  obtain ⟨e10, hW, V17, kb, fb, hX1, hS1, ⟨k18, n19⟩, ⟨k20, n21⟩, ⟨k22, n23⟩⟩ := q
  rw [hX] at fb k18 n19 k20 n21 k22 n23
  replace k18 : aK e10 (aX d + 7) = (4, 1, 0) := k18
  replace n19 : aN e10 (aX d + 7) = 400 := n19
  replace k20 : aK e10 (aX d + 8) = (4, 1, 0) := k20
  replace n21 : aN e10 (aX d + 8) = 12 := n21
  replace k22 : aK e10 (aX d + 9) = (4, 1, 0) := k22
  replace n23 : aN e10 (aX d + 9) = 12 := n23
  have hf := (V17.w (show a0 ≠ aX d + 6 from (Nat.ne_of_lt (Nat.lt_of_lt_of_le hlt (Nat.le_add_right _ _)))) ha0).2.trans hf
  have ha0 := (V17.w (show a0 ≠ aX d + 6 from (Nat.ne_of_lt (Nat.lt_of_lt_of_le hlt (Nat.le_add_right _ _)))) ha0).1
  have f4 := (V17.w (show aX d + 1 ≠ aX d + 6 from (fun q => absurd (Nat.add_left_cancel q) (by decide))) k3).2.trans f4
  have k3 := (V17.w (show aX d + 1 ≠ aX d + 6 from (fun q => absurd (Nat.add_left_cancel q) (by decide))) k3).1
  have f13 := (V17.w (show aX d + 5 ≠ aX d + 6 from (fun q => absurd (Nat.add_left_cancel q) (by decide))) k12).2.trans f13
  have k12 := (V17.w (show aX d + 5 ≠ aX d + 6 from (fun q => absurd (Nat.add_left_cancel q) (by decide))) k12).1
  have n2 := (V17.2.2.2.2.2.2.2 _ _ (show aX d + 0 ≠ aX d + 6 from (fun q => absurd (Nat.add_left_cancel q) (by decide))) k1).trans n2
  have k1 := V17.z k15 k1
  have n7 := (V17.2.2.2.2.2.2.2 _ _ (show aX d + 2 ≠ aX d + 6 from (fun q => absurd (Nat.add_left_cancel q) (by decide))) k6).trans n7
  have k6 := V17.z k15 k6
  have n9 := (V17.2.2.2.2.2.2.2 _ _ (show aX d + 3 ≠ aX d + 6 from (fun q => absurd (Nat.add_left_cancel q) (by decide))) k8).trans n9
  have k8 := V17.z k15 k8
  have n11 := (V17.2.2.2.2.2.2.2 _ _ (show aX d + 4 ≠ aX d + 6 from (fun q => absurd (Nat.add_left_cancel q) (by decide))) k10).trans n11
  have k10 := V17.z k15 k10
  have W := Adw.skip hd0 (Nat.le_add_right _ _) W V17
  have hX : aX e10 = aX d + 10 := (hX1.trans (congrArg (· + 3) hX)).trans (Nat.add_assoc _ _ _)
  have hS : aS e10 = aS d + 2043 := (hS1.trans (congrArg (· + 424) hS)).trans (Nat.add_assoc _ _ _)
  have k15 := kb
  have f16 := fb
  have f16 : aF e10 (aX d + 6) = [.ref (aX d + 1), .ref (aX d + 7), .int 0, .int 0, .ref (aX d + 8), .ref (aX d + 9)] := f16
  refine en_putA (fs' := [.ref (aX d + 0), .int 0, .ref (aX d + 1), .ref (aX d + 5), .ref (aX d + 6), .null, .int 0, .null, .null, .null, .long 0, .null, .null, .null, .null]) (by decide +kernel : u_at kl_122 55 = some (.putfield 34, [11, 4, 3])) hW ha0 hf (Nat.le_of_ble_eq_true rfl) rfl rfl hX (fun h e11 hEe11 hW kq nq hX1 hf1 ha01 y => ?_)
  have hS : aS e11 = aS d + 2043 := by rw [hEe11]; exact hS
  have f4 := (y.w (Nat.ne_of_gt (Nat.lt_of_lt_of_le hlt (Nat.le_add_right _ _))) k3).2.trans f4
  have k3 := (kq _).trans k3
  have f13 := (y.w (Nat.ne_of_gt (Nat.lt_of_lt_of_le hlt (Nat.le_add_right _ _))) k12).2.trans f13
  have k12 := (kq _).trans k12
  have f16 := (y.w (Nat.ne_of_gt (Nat.lt_of_lt_of_le hlt (Nat.le_add_right _ _))) k15).2.trans f16
  have k15 := (kq _).trans k15
  have k1 := (kq _).trans k1
  have n2 := (congrFun nq _).trans n2
  have k6 := (kq _).trans k6
  have n7 := (congrFun nq _).trans n7
  have k8 := (kq _).trans k8
  have n9 := (congrFun nq _).trans n9
  have k10 := (kq _).trans k10
  have n11 := (congrFun nq _).trans n11
  have k18 := (kq _).trans k18
  have n19 := (congrFun nq _).trans n19
  have k20 := (kq _).trans k20
  have n21 := (congrFun nq _).trans n21
  have k22 := (kq _).trans k22
  have n23 := (congrFun nq _).trans n23
  have W := W.trans y
  have hX := hX1
  have hf := hf1
  have ha0 := ha01
  refine en_segs [(58, .aload_n 0, []), (59, .bipush 6, [])] (by decide +kernel) (y := (61, [some (.ref a0)], [.int 6, .ref a0], h)) rfl ?_
  refine en_nazO (N := 6) (by decide +kernel : u_at kl_122 61 = some (.anewarray 38, [4])) hW (by decide +kernel) (by decide +kernel) rfl hX hS (fun h e12 hEe12 hW x k24 n25 hX1 hS1 => ?_)
  have hf := (x.w ha0).2.trans hf
  have ha0 := (x.w ha0).1
  have f4 := (x.w k3).2.trans f4
  have k3 := (x.w k3).1
  have f13 := (x.w k12).2.trans f13
  have k12 := (x.w k12).1
  have f16 := (x.w k15).2.trans f16
  have k15 := (x.w k15).1
  have n2 := (x.2.2.2.2.2.2.2 _ _ k1).trans n2
  have k1 := x.z k1
  have n7 := (x.2.2.2.2.2.2.2 _ _ k6).trans n7
  have k6 := x.z k6
  have n9 := (x.2.2.2.2.2.2.2 _ _ k8).trans n9
  have k8 := x.z k8
  have n11 := (x.2.2.2.2.2.2.2 _ _ k10).trans n11
  have k10 := x.z k10
  have n19 := (x.2.2.2.2.2.2.2 _ _ k18).trans n19
  have k18 := x.z k18
  have n21 := (x.2.2.2.2.2.2.2 _ _ k20).trans n21
  have k20 := x.z k20
  have n23 := (x.2.2.2.2.2.2.2 _ _ k22).trans n23
  have k22 := x.z k22
  have W := W.trans (Adw.of x)
  have hX : aX e12 = aX d + 11 := hX1
  have hS : aS e12 = aS d + 2049 := hS1.trans (Nat.add_assoc _ _ _)
  refine en_putA (fs' := [.ref (aX d + 0), .int 0, .ref (aX d + 1), .ref (aX d + 5), .ref (aX d + 6), .ref (aX d + 10), .int 0, .null, .null, .null, .long 0, .null, .null, .null, .null]) (by decide +kernel : u_at kl_122 64 = some (.putfield 40, [11, 5, 3])) hW ha0 hf (Nat.le_of_ble_eq_true rfl) rfl rfl hX (fun h e13 hEe13 hW kq nq hX1 hf1 ha01 y => ?_)
  have hS : aS e13 = aS d + 2049 := by rw [hEe13]; exact hS
  have f4 := (y.w (Nat.ne_of_gt (Nat.lt_of_lt_of_le hlt (Nat.le_add_right _ _))) k3).2.trans f4
  have k3 := (kq _).trans k3
  have f13 := (y.w (Nat.ne_of_gt (Nat.lt_of_lt_of_le hlt (Nat.le_add_right _ _))) k12).2.trans f13
  have k12 := (kq _).trans k12
  have f16 := (y.w (Nat.ne_of_gt (Nat.lt_of_lt_of_le hlt (Nat.le_add_right _ _))) k15).2.trans f16
  have k15 := (kq _).trans k15
  have k1 := (kq _).trans k1
  have n2 := (congrFun nq _).trans n2
  have k6 := (kq _).trans k6
  have n7 := (congrFun nq _).trans n7
  have k8 := (kq _).trans k8
  have n9 := (congrFun nq _).trans n9
  have k10 := (kq _).trans k10
  have n11 := (congrFun nq _).trans n11
  have k18 := (kq _).trans k18
  have n19 := (congrFun nq _).trans n19
  have k20 := (kq _).trans k20
  have n21 := (congrFun nq _).trans n21
  have k22 := (kq _).trans k22
  have n23 := (congrFun nq _).trans n23
  have k24 := (kq _).trans k24
  have n25 := (congrFun nq _).trans n25
  have W := W.trans y
  have hX := hX1
  have hf := hf1
  have ha0 := ha01
  refine en_segs [(67, .aload_n 0, [])] (by decide +kernel) (y := (68, [some (.ref a0)], [.ref a0], h)) rfl ?_
  refine en_newO (N := 9) (by decide +kernel : u_at kl_122 68 = some (.new 44, [10])) hW hX hS rfl (fun h e14 hEe14 hW x k26 f27 hX1 hS1 => ?_)
  have hf := (x.w ha0).2.trans hf
  have ha0 := (x.w ha0).1
  have f4 := (x.w k3).2.trans f4
  have k3 := (x.w k3).1
  have f13 := (x.w k12).2.trans f13
  have k12 := (x.w k12).1
  have f16 := (x.w k15).2.trans f16
  have k15 := (x.w k15).1
  have n2 := (x.2.2.2.2.2.2.2 _ _ k1).trans n2
  have k1 := x.z k1
  have n7 := (x.2.2.2.2.2.2.2 _ _ k6).trans n7
  have k6 := x.z k6
  have n9 := (x.2.2.2.2.2.2.2 _ _ k8).trans n9
  have k8 := x.z k8
  have n11 := (x.2.2.2.2.2.2.2 _ _ k10).trans n11
  have k10 := x.z k10
  have n19 := (x.2.2.2.2.2.2.2 _ _ k18).trans n19
  have k18 := x.z k18
  have n21 := (x.2.2.2.2.2.2.2 _ _ k20).trans n21
  have k20 := x.z k20
  have n23 := (x.2.2.2.2.2.2.2 _ _ k22).trans n23
  have k22 := x.z k22
  have n25 := (x.2.2.2.2.2.2.2 _ _ k24).trans n25
  have k24 := x.z k24
  have W := W.trans (Adw.of x)
  have hX : aX e14 = aX d + 12 := hX1
  have hS : aS e14 = aS d + 2058 := hS1.trans (Nat.add_assoc _ _ _)
  refine en_segs [(71, .dup, [])] (by decide +kernel) (y := (72, [some (.ref a0)], [.ref (aX d + 11), .ref (aX d + 11), .ref a0], h)) rfl ?_
  refine en_newO (N := 13) (by decide +kernel : u_at kl_122 72 = some (.new 46, [1])) hW hX hS rfl (fun h e15 hEe15 hW x k28 f29 hX1 hS1 => ?_)
  have hf := (x.w ha0).2.trans hf
  have ha0 := (x.w ha0).1
  have f4 := (x.w k3).2.trans f4
  have k3 := (x.w k3).1
  have f13 := (x.w k12).2.trans f13
  have k12 := (x.w k12).1
  have f16 := (x.w k15).2.trans f16
  have k15 := (x.w k15).1
  have f27 := (x.w k26).2.trans f27
  have k26 := (x.w k26).1
  have n2 := (x.2.2.2.2.2.2.2 _ _ k1).trans n2
  have k1 := x.z k1
  have n7 := (x.2.2.2.2.2.2.2 _ _ k6).trans n7
  have k6 := x.z k6
  have n9 := (x.2.2.2.2.2.2.2 _ _ k8).trans n9
  have k8 := x.z k8
  have n11 := (x.2.2.2.2.2.2.2 _ _ k10).trans n11
  have k10 := x.z k10
  have n19 := (x.2.2.2.2.2.2.2 _ _ k18).trans n19
  have k18 := x.z k18
  have n21 := (x.2.2.2.2.2.2.2 _ _ k20).trans n21
  have k20 := x.z k20
  have n23 := (x.2.2.2.2.2.2.2 _ _ k22).trans n23
  have k22 := x.z k22
  have n25 := (x.2.2.2.2.2.2.2 _ _ k24).trans n25
  have k24 := x.z k24
  have W := W.trans (Adw.of x)
  have hX : aX e15 = aX d + 13 := hX1
  have hS : aS e15 = aS d + 2071 := hS1.trans (Nat.add_assoc _ _ _)
  refine en_segs [(75, .dup, [])] (by decide +kernel) (y := (76, [some (.ref a0)], [.ref (aX d + 12), .ref (aX d + 12), .ref (aX d + 11), .ref (aX d + 11), .ref a0], h)) rfl ?_
  refine en_iwO (e0 := nD_1 e15 (aX d + 12)) (w' := mkw c0 (nC_1 c1 (aX d + 12)) c2 c3 c4 c5 c6 c7 c8 c9 c10 c11 c12 c13) (r := [.ref (aX d + 12), .ref (aX d + 11), .ref (aX d + 11), .ref a0]) (by decide +kernel : u_at kl_122 76 = some (.invokespecial 48, [9, 0, 1])) hW k28 rfl rfl (Nat.le_of_ble_eq_true rfl) (w_9 (D := D) (by omega) hW k28 f29 rfl) (fun h e16 hEe16 hW V30 k31 => ?_)
  have hX1 : aX e16 = aX d + 21 := (congrArg aX hEe16).trans (((nD_1_x e15 (aX d + 12)).trans (congrArg (· + 8) hX)).trans (Nat.add_assoc _ _ _))
  have hS1 : aS e16 = aS d + 2127 := (congrArg aS hEe16).trans (((nD_1_s e15 (aX d + 12)).trans (congrArg (· + 56) hS)).trans (Nat.add_assoc _ _ _))
  have hf := (V30.w (show a0 ≠ aX d + 12 from (Nat.ne_of_lt (Nat.lt_of_lt_of_le hlt (Nat.le_add_right _ _)))) ha0).2.trans hf
  have ha0 := (V30.w (show a0 ≠ aX d + 12 from (Nat.ne_of_lt (Nat.lt_of_lt_of_le hlt (Nat.le_add_right _ _)))) ha0).1
  have f4 := (V30.w (show aX d + 1 ≠ aX d + 12 from (fun q => absurd (Nat.add_left_cancel q) (by decide))) k3).2.trans f4
  have k3 := (V30.w (show aX d + 1 ≠ aX d + 12 from (fun q => absurd (Nat.add_left_cancel q) (by decide))) k3).1
  have f13 := (V30.w (show aX d + 5 ≠ aX d + 12 from (fun q => absurd (Nat.add_left_cancel q) (by decide))) k12).2.trans f13
  have k12 := (V30.w (show aX d + 5 ≠ aX d + 12 from (fun q => absurd (Nat.add_left_cancel q) (by decide))) k12).1
  have f16 := (V30.w (show aX d + 6 ≠ aX d + 12 from (fun q => absurd (Nat.add_left_cancel q) (by decide))) k15).2.trans f16
  have k15 := (V30.w (show aX d + 6 ≠ aX d + 12 from (fun q => absurd (Nat.add_left_cancel q) (by decide))) k15).1
  have f27 := (V30.w (show aX d + 11 ≠ aX d + 12 from (fun q => absurd (Nat.add_left_cancel q) (by decide))) k26).2.trans f27
  have k26 := (V30.w (show aX d + 11 ≠ aX d + 12 from (fun q => absurd (Nat.add_left_cancel q) (by decide))) k26).1
  have n2 := (V30.2.2.2.2.2.2.2 _ _ (show aX d + 0 ≠ aX d + 12 from (fun q => absurd (Nat.add_left_cancel q) (by decide))) k1).trans n2
  have k1 := V30.z k28 k1
  have n7 := (V30.2.2.2.2.2.2.2 _ _ (show aX d + 2 ≠ aX d + 12 from (fun q => absurd (Nat.add_left_cancel q) (by decide))) k6).trans n7
  have k6 := V30.z k28 k6
  have n9 := (V30.2.2.2.2.2.2.2 _ _ (show aX d + 3 ≠ aX d + 12 from (fun q => absurd (Nat.add_left_cancel q) (by decide))) k8).trans n9
  have k8 := V30.z k28 k8
  have n11 := (V30.2.2.2.2.2.2.2 _ _ (show aX d + 4 ≠ aX d + 12 from (fun q => absurd (Nat.add_left_cancel q) (by decide))) k10).trans n11
  have k10 := V30.z k28 k10
  have n19 := (V30.2.2.2.2.2.2.2 _ _ (show aX d + 7 ≠ aX d + 12 from (fun q => absurd (Nat.add_left_cancel q) (by decide))) k18).trans n19
  have k18 := V30.z k28 k18
  have n21 := (V30.2.2.2.2.2.2.2 _ _ (show aX d + 8 ≠ aX d + 12 from (fun q => absurd (Nat.add_left_cancel q) (by decide))) k20).trans n21
  have k20 := V30.z k28 k20
  have n23 := (V30.2.2.2.2.2.2.2 _ _ (show aX d + 9 ≠ aX d + 12 from (fun q => absurd (Nat.add_left_cancel q) (by decide))) k22).trans n23
  have k22 := V30.z k28 k22
  have n25 := (V30.2.2.2.2.2.2.2 _ _ (show aX d + 10 ≠ aX d + 12 from (fun q => absurd (Nat.add_left_cancel q) (by decide))) k24).trans n25
  have k24 := V30.z k28 k24
  have W := Adw.skip hd0 (Nat.le_add_right _ _) W V30
  have hX := hX1
  have hS := hS1
  obtain ⟨rr, hrr, rrx, rrs, rr1, rr2⟩ := fw_116 (c8 := c8) (c10 := c10) (d := e16) (a0 := (aX d + 11)) (a1 := (aX d + 12))
  rw [hX] at rr1 rr2
  refine en_iwO (e0 := rr.2.2) (w' := mkw c0 (nC_1 c1 (aX d + 12)) c2 c3 c4 c5 c6 c7 rr.1 c9 rr.2.1 c11 c12 c13) (r := [.ref (aX d + 11), .ref a0]) (by decide +kernel : u_at kl_122 79 = some (.invokespecial 49, [116, 1, 10])) hW k26 rfl rfl (Nat.le_of_ble_eq_true rfl) (w_116 (D := D) (by omega) hW k26 f27 k31 hrr) (fun h e17 hEe17 hW V32 k33 => ?_)
  have hX1 : aX e17 = aX d + 256 := (congrArg aX hEe17).trans ((rrx.trans (congrArg (· + 235) hX)).trans (Nat.add_assoc _ _ _))
  have hS1 : aS e17 = aS d + 4871 := (congrArg aS hEe17).trans ((rrs.trans (congrArg (· + 2744) hS)).trans (Nat.add_assoc _ _ _))
  have hf := (V32.w (show a0 ≠ aX d + 11 from (Nat.ne_of_lt (Nat.lt_of_lt_of_le hlt (Nat.le_add_right _ _)))) ha0).2.trans hf
  have ha0 := (V32.w (show a0 ≠ aX d + 11 from (Nat.ne_of_lt (Nat.lt_of_lt_of_le hlt (Nat.le_add_right _ _)))) ha0).1
  have f4 := (V32.w (show aX d + 1 ≠ aX d + 11 from (fun q => absurd (Nat.add_left_cancel q) (by decide))) k3).2.trans f4
  have k3 := (V32.w (show aX d + 1 ≠ aX d + 11 from (fun q => absurd (Nat.add_left_cancel q) (by decide))) k3).1
  have f13 := (V32.w (show aX d + 5 ≠ aX d + 11 from (fun q => absurd (Nat.add_left_cancel q) (by decide))) k12).2.trans f13
  have k12 := (V32.w (show aX d + 5 ≠ aX d + 11 from (fun q => absurd (Nat.add_left_cancel q) (by decide))) k12).1
  have f16 := (V32.w (show aX d + 6 ≠ aX d + 11 from (fun q => absurd (Nat.add_left_cancel q) (by decide))) k15).2.trans f16
  have k15 := (V32.w (show aX d + 6 ≠ aX d + 11 from (fun q => absurd (Nat.add_left_cancel q) (by decide))) k15).1
  have n2 := (V32.2.2.2.2.2.2.2 _ _ (show aX d + 0 ≠ aX d + 11 from (fun q => absurd (Nat.add_left_cancel q) (by decide))) k1).trans n2
  have k1 := V32.z k26 k1
  have n7 := (V32.2.2.2.2.2.2.2 _ _ (show aX d + 2 ≠ aX d + 11 from (fun q => absurd (Nat.add_left_cancel q) (by decide))) k6).trans n7
  have k6 := V32.z k26 k6
  have n9 := (V32.2.2.2.2.2.2.2 _ _ (show aX d + 3 ≠ aX d + 11 from (fun q => absurd (Nat.add_left_cancel q) (by decide))) k8).trans n9
  have k8 := V32.z k26 k8
  have n11 := (V32.2.2.2.2.2.2.2 _ _ (show aX d + 4 ≠ aX d + 11 from (fun q => absurd (Nat.add_left_cancel q) (by decide))) k10).trans n11
  have k10 := V32.z k26 k10
  have n19 := (V32.2.2.2.2.2.2.2 _ _ (show aX d + 7 ≠ aX d + 11 from (fun q => absurd (Nat.add_left_cancel q) (by decide))) k18).trans n19
  have k18 := V32.z k26 k18
  have n21 := (V32.2.2.2.2.2.2.2 _ _ (show aX d + 8 ≠ aX d + 11 from (fun q => absurd (Nat.add_left_cancel q) (by decide))) k20).trans n21
  have k20 := V32.z k26 k20
  have n23 := (V32.2.2.2.2.2.2.2 _ _ (show aX d + 9 ≠ aX d + 11 from (fun q => absurd (Nat.add_left_cancel q) (by decide))) k22).trans n23
  have k22 := V32.z k26 k22
  have n25 := (V32.2.2.2.2.2.2.2 _ _ (show aX d + 10 ≠ aX d + 11 from (fun q => absurd (Nat.add_left_cancel q) (by decide))) k24).trans n25
  have k24 := V32.z k26 k24
  have k31 := V32.o k26 k31
  have W := Adw.skip hd0 (Nat.le_add_right _ _) W V32
  have hX := hX1
  have hS := hS1
  refine en_putA (fs' := [.ref (aX d + 0), .int 0, .ref (aX d + 1), .ref (aX d + 5), .ref (aX d + 6), .ref (aX d + 10), .int 0, .ref (aX d + 11), .null, .null, .long 0, .null, .null, .null, .null]) (by decide +kernel : u_at kl_122 82 = some (.putfield 52, [11, 7, 3])) hW ha0 hf (Nat.le_of_ble_eq_true rfl) rfl rfl hX (fun h e18 hEe18 hW kq nq hX1 hf1 ha01 y => ?_)
  have hS : aS e18 = aS d + 4871 := by rw [hEe18]; exact hS
  have f4 := (y.w (Nat.ne_of_gt (Nat.lt_of_lt_of_le hlt (Nat.le_add_right _ _))) k3).2.trans f4
  have k3 := (kq _).trans k3
  have f13 := (y.w (Nat.ne_of_gt (Nat.lt_of_lt_of_le hlt (Nat.le_add_right _ _))) k12).2.trans f13
  have k12 := (kq _).trans k12
  have f16 := (y.w (Nat.ne_of_gt (Nat.lt_of_lt_of_le hlt (Nat.le_add_right _ _))) k15).2.trans f16
  have k15 := (kq _).trans k15
  have k1 := (kq _).trans k1
  have n2 := (congrFun nq _).trans n2
  have k6 := (kq _).trans k6
  have n7 := (congrFun nq _).trans n7
  have k8 := (kq _).trans k8
  have n9 := (congrFun nq _).trans n9
  have k10 := (kq _).trans k10
  have n11 := (congrFun nq _).trans n11
  have k18 := (kq _).trans k18
  have n19 := (congrFun nq _).trans n19
  have k20 := (kq _).trans k20
  have n21 := (congrFun nq _).trans n21
  have k22 := (kq _).trans k22
  have n23 := (congrFun nq _).trans n23
  have k24 := (kq _).trans k24
  have n25 := (congrFun nq _).trans n25
  have k31 := (kq _).trans k31
  have k33 := (kq _).trans k33
  have W := W.trans y
  have hX := hX1
  have hf := hf1
  have ha0 := ha01
  refine en_segs [(85, .aload_n 0, []), (86, .iconst 4, [])] (by decide +kernel) (y := (87, [some (.ref a0)], [.int 4, .ref a0], h)) rfl ?_
  refine en_nazO (N := 4) (by decide +kernel : u_at kl_122 87 = some (.anewarray 44, [6])) hW (by decide +kernel) (by decide +kernel) rfl hX hS (fun h e19 hEe19 hW x k34 n35 hX1 hS1 => ?_)
  have hf := (x.w ha0).2.trans hf
  have ha0 := (x.w ha0).1
  have f4 := (x.w k3).2.trans f4
  have k3 := (x.w k3).1
  have f13 := (x.w k12).2.trans f13
  have k12 := (x.w k12).1
  have f16 := (x.w k15).2.trans f16
  have k15 := (x.w k15).1
  have n2 := (x.2.2.2.2.2.2.2 _ _ k1).trans n2
  have k1 := x.z k1
  have n7 := (x.2.2.2.2.2.2.2 _ _ k6).trans n7
  have k6 := x.z k6
  have n9 := (x.2.2.2.2.2.2.2 _ _ k8).trans n9
  have k8 := x.z k8
  have n11 := (x.2.2.2.2.2.2.2 _ _ k10).trans n11
  have k10 := x.z k10
  have n19 := (x.2.2.2.2.2.2.2 _ _ k18).trans n19
  have k18 := x.z k18
  have n21 := (x.2.2.2.2.2.2.2 _ _ k20).trans n21
  have k20 := x.z k20
  have n23 := (x.2.2.2.2.2.2.2 _ _ k22).trans n23
  have k22 := x.z k22
  have n25 := (x.2.2.2.2.2.2.2 _ _ k24).trans n25
  have k24 := x.z k24
  have k31 := x.o k31
  have k33 := x.o k33
  have W := W.trans (Adw.of x)
  have hX : aX e19 = aX d + 257 := hX1
  have hS : aS e19 = aS d + 4875 := hS1.trans (Nat.add_assoc _ _ _)
  refine en_putA (fs' := [.ref (aX d + 0), .int 0, .ref (aX d + 1), .ref (aX d + 5), .ref (aX d + 6), .ref (aX d + 10), .int 0, .ref (aX d + 11), .ref (aX d + 256), .null, .long 0, .null, .null, .null, .null]) (by decide +kernel : u_at kl_122 90 = some (.putfield 56, [11, 8, 3])) hW ha0 hf (Nat.le_of_ble_eq_true rfl) rfl rfl hX (fun h e20 hEe20 hW kq nq hX1 hf1 ha01 y => ?_)
  have hS : aS e20 = aS d + 4875 := by rw [hEe20]; exact hS
  have f4 := (y.w (Nat.ne_of_gt (Nat.lt_of_lt_of_le hlt (Nat.le_add_right _ _))) k3).2.trans f4
  have k3 := (kq _).trans k3
  have f13 := (y.w (Nat.ne_of_gt (Nat.lt_of_lt_of_le hlt (Nat.le_add_right _ _))) k12).2.trans f13
  have k12 := (kq _).trans k12
  have f16 := (y.w (Nat.ne_of_gt (Nat.lt_of_lt_of_le hlt (Nat.le_add_right _ _))) k15).2.trans f16
  have k15 := (kq _).trans k15
  have k1 := (kq _).trans k1
  have n2 := (congrFun nq _).trans n2
  have k6 := (kq _).trans k6
  have n7 := (congrFun nq _).trans n7
  have k8 := (kq _).trans k8
  have n9 := (congrFun nq _).trans n9
  have k10 := (kq _).trans k10
  have n11 := (congrFun nq _).trans n11
  have k18 := (kq _).trans k18
  have n19 := (congrFun nq _).trans n19
  have k20 := (kq _).trans k20
  have n21 := (congrFun nq _).trans n21
  have k22 := (kq _).trans k22
  have n23 := (congrFun nq _).trans n23
  have k24 := (kq _).trans k24
  have n25 := (congrFun nq _).trans n25
  have k34 := (kq _).trans k34
  have n35 := (congrFun nq _).trans n35
  have k31 := (kq _).trans k31
  have k33 := (kq _).trans k33
  have W := W.trans y
  have hX := hX1
  have hf := hf1
  have ha0 := ha01
  refine en_segs [(93, .aload_n 0, [])] (by decide +kernel) (y := (94, [some (.ref a0)], [.ref a0], h)) rfl ?_
  refine en_newO (N := 14) (by decide +kernel : u_at kl_122 94 = some (.new 60, [8])) hW hX hS rfl (fun h e21 hEe21 hW x k36 f37 hX1 hS1 => ?_)
  have hf := (x.w ha0).2.trans hf
  have ha0 := (x.w ha0).1
  have f4 := (x.w k3).2.trans f4
  have k3 := (x.w k3).1
  have f13 := (x.w k12).2.trans f13
  have k12 := (x.w k12).1
  have f16 := (x.w k15).2.trans f16
  have k15 := (x.w k15).1
  have n2 := (x.2.2.2.2.2.2.2 _ _ k1).trans n2
  have k1 := x.z k1
  have n7 := (x.2.2.2.2.2.2.2 _ _ k6).trans n7
  have k6 := x.z k6
  have n9 := (x.2.2.2.2.2.2.2 _ _ k8).trans n9
  have k8 := x.z k8
  have n11 := (x.2.2.2.2.2.2.2 _ _ k10).trans n11
  have k10 := x.z k10
  have n19 := (x.2.2.2.2.2.2.2 _ _ k18).trans n19
  have k18 := x.z k18
  have n21 := (x.2.2.2.2.2.2.2 _ _ k20).trans n21
  have k20 := x.z k20
  have n23 := (x.2.2.2.2.2.2.2 _ _ k22).trans n23
  have k22 := x.z k22
  have n25 := (x.2.2.2.2.2.2.2 _ _ k24).trans n25
  have k24 := x.z k24
  have n35 := (x.2.2.2.2.2.2.2 _ _ k34).trans n35
  have k34 := x.z k34
  have k31 := x.o k31
  have k33 := x.o k33
  have W := W.trans (Adw.of x)
  have hX : aX e21 = aX d + 258 := hX1
  have hS : aS e21 = aS d + 4889 := hS1.trans (Nat.add_assoc _ _ _)
  refine en_segs [(97, .dup, []), (98, .aload_n 0, [])] (by decide +kernel) (y := (99, [some (.ref a0)], [.ref a0, .ref (aX d + 257), .ref (aX d + 257), .ref a0], h)) rfl ?_
  refine en_getr (v := .ref (aX d + 11)) (by decide +kernel : u_at kl_122 99 = some (.getfield 52, [11, 7])) hW ha0 (by rw [hf]; rfl) ?_
  have z38 : aK e21 (cR rr.2.1 0 (aX d + 11)) = (0, 8, 0) := wf_obj hW k33 (by decide) rfl
  refine en_get (v := .ref (cR rr.2.1 0 (aX d + 11))) (by decide +kernel : u_at kl_122 102 = some (.getfield 62, [10, 0])) hW k33 (by decide) rfl ?_
  have z39 : aK e21 (cR rr.1 0 (cR rr.2.1 0 (aX d + 11))) = (0, 1, 0) := wf_obj hW z38 (by decide) rfl
  refine en_get (v := .ref (cR rr.1 0 (cR rr.2.1 0 (aX d + 11)))) (by decide +kernel : u_at kl_122 105 = some (.getfield 66, [8, 0])) hW z38 (by decide) rfl ?_
  refine en_iwO (e0 := nD_8 e21 (aX d + 257) (cR rr.1 0 (cR rr.2.1 0 (aX d + 11)))) (w' := mkw c0 (nC_1 c1 (aX d + 12)) c2 c3 c4 c5 c6 c7 (nC_8 rr.1 (aX d + 257) (cR rr.1 0 (cR rr.2.1 0 (aX d + 11)))) c9 rr.2.1 c11 c12 c13) (r := [.ref (aX d + 257), .ref a0]) (by decide +kernel : u_at kl_122 108 = some (.invokespecial 70, [80, 1, 8])) hW k36 rfl rfl (Nat.le_of_ble_eq_true rfl) (w_80 (D := D) (by omega) hW k36 f37 z39 rfl) (fun h e22 hEe22 hW V40 k41 => ?_)
  have hX1 : aX e22 = aX d + 268 := (congrArg aX hEe22).trans (((nD_8_x e21 (aX d + 257) (cR rr.1 0 (cR rr.2.1 0 (aX d + 11)))).trans (congrArg (· + 10) hX)).trans (Nat.add_assoc _ _ _))
  have hS1 : aS e22 = aS d + 5003 := (congrArg aS hEe22).trans (((nD_8_s e21 (aX d + 257) (cR rr.1 0 (cR rr.2.1 0 (aX d + 11)))).trans (congrArg (· + 114) hS)).trans (Nat.add_assoc _ _ _))
  have hf := (V40.w (show a0 ≠ aX d + 257 from (Nat.ne_of_lt (Nat.lt_of_lt_of_le hlt (Nat.le_add_right _ _)))) ha0).2.trans hf
  have ha0 := (V40.w (show a0 ≠ aX d + 257 from (Nat.ne_of_lt (Nat.lt_of_lt_of_le hlt (Nat.le_add_right _ _)))) ha0).1
  have f4 := (V40.w (show aX d + 1 ≠ aX d + 257 from (fun q => absurd (Nat.add_left_cancel q) (by decide))) k3).2.trans f4
  have k3 := (V40.w (show aX d + 1 ≠ aX d + 257 from (fun q => absurd (Nat.add_left_cancel q) (by decide))) k3).1
  have f13 := (V40.w (show aX d + 5 ≠ aX d + 257 from (fun q => absurd (Nat.add_left_cancel q) (by decide))) k12).2.trans f13
  have k12 := (V40.w (show aX d + 5 ≠ aX d + 257 from (fun q => absurd (Nat.add_left_cancel q) (by decide))) k12).1
  have f16 := (V40.w (show aX d + 6 ≠ aX d + 257 from (fun q => absurd (Nat.add_left_cancel q) (by decide))) k15).2.trans f16
  have k15 := (V40.w (show aX d + 6 ≠ aX d + 257 from (fun q => absurd (Nat.add_left_cancel q) (by decide))) k15).1
  have n2 := (V40.2.2.2.2.2.2.2 _ _ (show aX d + 0 ≠ aX d + 257 from (fun q => absurd (Nat.add_left_cancel q) (by decide))) k1).trans n2
  have k1 := V40.z k36 k1
  have n7 := (V40.2.2.2.2.2.2.2 _ _ (show aX d + 2 ≠ aX d + 257 from (fun q => absurd (Nat.add_left_cancel q) (by decide))) k6).trans n7
  have k6 := V40.z k36 k6
  have n9 := (V40.2.2.2.2.2.2.2 _ _ (show aX d + 3 ≠ aX d + 257 from (fun q => absurd (Nat.add_left_cancel q) (by decide))) k8).trans n9
  have k8 := V40.z k36 k8
  have n11 := (V40.2.2.2.2.2.2.2 _ _ (show aX d + 4 ≠ aX d + 257 from (fun q => absurd (Nat.add_left_cancel q) (by decide))) k10).trans n11
  have k10 := V40.z k36 k10
  have n19 := (V40.2.2.2.2.2.2.2 _ _ (show aX d + 7 ≠ aX d + 257 from (fun q => absurd (Nat.add_left_cancel q) (by decide))) k18).trans n19
  have k18 := V40.z k36 k18
  have n21 := (V40.2.2.2.2.2.2.2 _ _ (show aX d + 8 ≠ aX d + 257 from (fun q => absurd (Nat.add_left_cancel q) (by decide))) k20).trans n21
  have k20 := V40.z k36 k20
  have n23 := (V40.2.2.2.2.2.2.2 _ _ (show aX d + 9 ≠ aX d + 257 from (fun q => absurd (Nat.add_left_cancel q) (by decide))) k22).trans n23
  have k22 := V40.z k36 k22
  have n25 := (V40.2.2.2.2.2.2.2 _ _ (show aX d + 10 ≠ aX d + 257 from (fun q => absurd (Nat.add_left_cancel q) (by decide))) k24).trans n25
  have k24 := V40.z k36 k24
  have n35 := (V40.2.2.2.2.2.2.2 _ _ (show aX d + 256 ≠ aX d + 257 from (fun q => absurd (Nat.add_left_cancel q) (by decide))) k34).trans n35
  have k34 := V40.z k36 k34
  have k31 := V40.o k36 k31
  have k33 := V40.o k36 k33
  have z38 := V40.o k36 z38
  have z39 := V40.o k36 z39
  have W := Adw.skip hd0 (Nat.le_add_right _ _) W V40
  have hX := hX1
  have hS := hS1
  refine en_putA (fs' := [.ref (aX d + 0), .int 0, .ref (aX d + 1), .ref (aX d + 5), .ref (aX d + 6), .ref (aX d + 10), .int 0, .ref (aX d + 11), .ref (aX d + 256), .ref (aX d + 257), .long 0, .null, .null, .null, .null]) (by decide +kernel : u_at kl_122 111 = some (.putfield 71, [11, 9, 3])) hW ha0 hf (Nat.le_of_ble_eq_true rfl) rfl rfl hX (fun h e23 hEe23 hW kq nq hX1 hf1 ha01 y => ?_)
  have hS : aS e23 = aS d + 5003 := by rw [hEe23]; exact hS
  have f4 := (y.w (Nat.ne_of_gt (Nat.lt_of_lt_of_le hlt (Nat.le_add_right _ _))) k3).2.trans f4
  have k3 := (kq _).trans k3
  have f13 := (y.w (Nat.ne_of_gt (Nat.lt_of_lt_of_le hlt (Nat.le_add_right _ _))) k12).2.trans f13
  have k12 := (kq _).trans k12
  have f16 := (y.w (Nat.ne_of_gt (Nat.lt_of_lt_of_le hlt (Nat.le_add_right _ _))) k15).2.trans f16
  have k15 := (kq _).trans k15
  have k1 := (kq _).trans k1
  have n2 := (congrFun nq _).trans n2
  have k6 := (kq _).trans k6
  have n7 := (congrFun nq _).trans n7
  have k8 := (kq _).trans k8
  have n9 := (congrFun nq _).trans n9
  have k10 := (kq _).trans k10
  have n11 := (congrFun nq _).trans n11
  have k18 := (kq _).trans k18
  have n19 := (congrFun nq _).trans n19
  have k20 := (kq _).trans k20
  have n21 := (congrFun nq _).trans n21
  have k22 := (kq _).trans k22
  have n23 := (congrFun nq _).trans n23
  have k24 := (kq _).trans k24
  have n25 := (congrFun nq _).trans n25
  have k34 := (kq _).trans k34
  have n35 := (congrFun nq _).trans n35
  have k31 := (kq _).trans k31
  have k33 := (kq _).trans k33
  have z38 := (kq _).trans z38
  have z39 := (kq _).trans z39
  have k41 := (kq _).trans k41
  have W := W.trans y
  have hX := hX1
  have hf := hf1
  have ha0 := ha01
  refine en_segs [(114, .aload_n 0, [])] (by decide +kernel) (y := (115, [some (.ref a0)], [.ref a0], h)) rfl ?_
  refine en_newO (N := 16) (by decide +kernel : u_at kl_122 115 = some (.new 74, [6])) hW hX hS rfl (fun h e24 hEe24 hW x k42 f43 hX1 hS1 => ?_)
  have hf := (x.w ha0).2.trans hf
  have ha0 := (x.w ha0).1
  have f4 := (x.w k3).2.trans f4
  have k3 := (x.w k3).1
  have f13 := (x.w k12).2.trans f13
  have k12 := (x.w k12).1
  have f16 := (x.w k15).2.trans f16
  have k15 := (x.w k15).1
  have n2 := (x.2.2.2.2.2.2.2 _ _ k1).trans n2
  have k1 := x.z k1
  have n7 := (x.2.2.2.2.2.2.2 _ _ k6).trans n7
  have k6 := x.z k6
  have n9 := (x.2.2.2.2.2.2.2 _ _ k8).trans n9
  have k8 := x.z k8
  have n11 := (x.2.2.2.2.2.2.2 _ _ k10).trans n11
  have k10 := x.z k10
  have n19 := (x.2.2.2.2.2.2.2 _ _ k18).trans n19
  have k18 := x.z k18
  have n21 := (x.2.2.2.2.2.2.2 _ _ k20).trans n21
  have k20 := x.z k20
  have n23 := (x.2.2.2.2.2.2.2 _ _ k22).trans n23
  have k22 := x.z k22
  have n25 := (x.2.2.2.2.2.2.2 _ _ k24).trans n25
  have k24 := x.z k24
  have n35 := (x.2.2.2.2.2.2.2 _ _ k34).trans n35
  have k34 := x.z k34
  have k31 := x.o k31
  have k33 := x.o k33
  have z38 := x.o z38
  have z39 := x.o z39
  have k41 := x.o k41
  have W := W.trans (Adw.of x)
  have hX : aX e24 = aX d + 269 := hX1
  have hS : aS e24 = aS d + 5019 := hS1.trans (Nat.add_assoc _ _ _)
  refine en_segs [(118, .dup, [])] (by decide +kernel) (y := (119, [some (.ref a0)], [.ref (aX d + 268), .ref (aX d + 268), .ref a0], h)) rfl ?_
  have hXs6 := hX
  have fr6 := fr_50 hW k42 f43 
  rw [hX] at fr6
  refine en_iwO (e0 := nD_6 e24 (aX d + 268)) (w' := mkw c0 (nC_1 c1 (aX d + 12)) c2 c3 c4 c5 (nC_6 c6 e24 (aX d + 268)) c7 (nC_8 rr.1 (aX d + 257) (cR rr.1 0 (cR rr.2.1 0 (aX d + 11)))) c9 rr.2.1 c11 c12 (nC13_6 c13 e24)) (r := [.ref (aX d + 268), .ref a0]) (by decide +kernel : u_at kl_122 119 = some (.invokespecial 76, [50, 0, 6])) hW k42 rfl rfl (Nat.le_of_ble_eq_true rfl) (w_50 (D := D) (by omega) hW k42 f43 rfl) (fun h e25 hEe25 hW V44 k45 => ?_)
  have hX1 : aX e25 = aX d + 281 := (congrArg aX hEe25).trans (((nD_6_x e24 (aX d + 268)).trans (congrArg (· + 12) hX)).trans (Nat.add_assoc _ _ _))
  have hS1 : aS e25 = aS d + 5067 := (congrArg aS hEe25).trans (((nD_6_s e24 (aX d + 268)).trans (congrArg (· + 48) hS)).trans (Nat.add_assoc _ _ _))
  have hf := (V44.w (show a0 ≠ aX d + 268 from (Nat.ne_of_lt (Nat.lt_of_lt_of_le hlt (Nat.le_add_right _ _)))) ha0).2.trans hf
  have ha0 := (V44.w (show a0 ≠ aX d + 268 from (Nat.ne_of_lt (Nat.lt_of_lt_of_le hlt (Nat.le_add_right _ _)))) ha0).1
  have f4 := (V44.w (show aX d + 1 ≠ aX d + 268 from (fun q => absurd (Nat.add_left_cancel q) (by decide))) k3).2.trans f4
  have k3 := (V44.w (show aX d + 1 ≠ aX d + 268 from (fun q => absurd (Nat.add_left_cancel q) (by decide))) k3).1
  have f13 := (V44.w (show aX d + 5 ≠ aX d + 268 from (fun q => absurd (Nat.add_left_cancel q) (by decide))) k12).2.trans f13
  have k12 := (V44.w (show aX d + 5 ≠ aX d + 268 from (fun q => absurd (Nat.add_left_cancel q) (by decide))) k12).1
  have f16 := (V44.w (show aX d + 6 ≠ aX d + 268 from (fun q => absurd (Nat.add_left_cancel q) (by decide))) k15).2.trans f16
  have k15 := (V44.w (show aX d + 6 ≠ aX d + 268 from (fun q => absurd (Nat.add_left_cancel q) (by decide))) k15).1
  have n2 := (V44.2.2.2.2.2.2.2 _ _ (show aX d + 0 ≠ aX d + 268 from (fun q => absurd (Nat.add_left_cancel q) (by decide))) k1).trans n2
  have k1 := V44.z k42 k1
  have n7 := (V44.2.2.2.2.2.2.2 _ _ (show aX d + 2 ≠ aX d + 268 from (fun q => absurd (Nat.add_left_cancel q) (by decide))) k6).trans n7
  have k6 := V44.z k42 k6
  have n9 := (V44.2.2.2.2.2.2.2 _ _ (show aX d + 3 ≠ aX d + 268 from (fun q => absurd (Nat.add_left_cancel q) (by decide))) k8).trans n9
  have k8 := V44.z k42 k8
  have n11 := (V44.2.2.2.2.2.2.2 _ _ (show aX d + 4 ≠ aX d + 268 from (fun q => absurd (Nat.add_left_cancel q) (by decide))) k10).trans n11
  have k10 := V44.z k42 k10
  have n19 := (V44.2.2.2.2.2.2.2 _ _ (show aX d + 7 ≠ aX d + 268 from (fun q => absurd (Nat.add_left_cancel q) (by decide))) k18).trans n19
  have k18 := V44.z k42 k18
  have n21 := (V44.2.2.2.2.2.2.2 _ _ (show aX d + 8 ≠ aX d + 268 from (fun q => absurd (Nat.add_left_cancel q) (by decide))) k20).trans n21
  have k20 := V44.z k42 k20
  have n23 := (V44.2.2.2.2.2.2.2 _ _ (show aX d + 9 ≠ aX d + 268 from (fun q => absurd (Nat.add_left_cancel q) (by decide))) k22).trans n23
  have k22 := V44.z k42 k22
  have n25 := (V44.2.2.2.2.2.2.2 _ _ (show aX d + 10 ≠ aX d + 268 from (fun q => absurd (Nat.add_left_cancel q) (by decide))) k24).trans n25
  have k24 := V44.z k42 k24
  have n35 := (V44.2.2.2.2.2.2.2 _ _ (show aX d + 256 ≠ aX d + 268 from (fun q => absurd (Nat.add_left_cancel q) (by decide))) k34).trans n35
  have k34 := V44.z k42 k34
  have k31 := V44.o k42 k31
  have k33 := V44.o k42 k33
  have z38 := V44.o k42 z38
  have z39 := V44.o k42 z39
  have k41 := V44.o k42 k41
  rw [← hEe25] at fr6
  obtain ⟨⟨k46, n47⟩, ⟨k48, n49⟩, ⟨k50, n51⟩, ⟨k52, n53⟩⟩ := fr6
  replace k46 : aK e25 (aX d + 277) = (2, 2, 0) := k46
  replace n47 : aN e25 (aX d + 277) = 0 := n47
  replace k48 : aK e25 (aX d + 278) = (2, 2, 0) := k48
  replace n49 : aN e25 (aX d + 278) = 0 := n49
  replace k50 : aK e25 (aX d + 279) = (2, 1, 0) := k50
  replace n51 : aN e25 (aX d + 279) = 0 := n51
  replace k52 : aK e25 (aX d + 280) = (2, 1, 0) := k52
  replace n53 : aN e25 (aX d + 280) = 0 := n53
  have W := Adw.skip hd0 (Nat.le_add_right _ _) W V44
  have hX := hX1
  have hS := hS1
  refine en_putA (fs' := [.ref (aX d + 0), .int 0, .ref (aX d + 1), .ref (aX d + 5), .ref (aX d + 6), .ref (aX d + 10), .int 0, .ref (aX d + 11), .ref (aX d + 256), .ref (aX d + 257), .long 0, .ref (aX d + 268), .null, .null, .null]) (by decide +kernel : u_at kl_122 122 = some (.putfield 77, [11, 11, 3])) hW ha0 hf (Nat.le_of_ble_eq_true rfl) rfl rfl hX (fun h e26 hEe26 hW kq nq hX1 hf1 ha01 y => ?_)
  have hS : aS e26 = aS d + 5067 := by rw [hEe26]; exact hS
  have f4 := (y.w (Nat.ne_of_gt (Nat.lt_of_lt_of_le hlt (Nat.le_add_right _ _))) k3).2.trans f4
  have k3 := (kq _).trans k3
  have f13 := (y.w (Nat.ne_of_gt (Nat.lt_of_lt_of_le hlt (Nat.le_add_right _ _))) k12).2.trans f13
  have k12 := (kq _).trans k12
  have f16 := (y.w (Nat.ne_of_gt (Nat.lt_of_lt_of_le hlt (Nat.le_add_right _ _))) k15).2.trans f16
  have k15 := (kq _).trans k15
  have k1 := (kq _).trans k1
  have n2 := (congrFun nq _).trans n2
  have k6 := (kq _).trans k6
  have n7 := (congrFun nq _).trans n7
  have k8 := (kq _).trans k8
  have n9 := (congrFun nq _).trans n9
  have k10 := (kq _).trans k10
  have n11 := (congrFun nq _).trans n11
  have k18 := (kq _).trans k18
  have n19 := (congrFun nq _).trans n19
  have k20 := (kq _).trans k20
  have n21 := (congrFun nq _).trans n21
  have k22 := (kq _).trans k22
  have n23 := (congrFun nq _).trans n23
  have k24 := (kq _).trans k24
  have n25 := (congrFun nq _).trans n25
  have k34 := (kq _).trans k34
  have n35 := (congrFun nq _).trans n35
  have k31 := (kq _).trans k31
  have k33 := (kq _).trans k33
  have z38 := (kq _).trans z38
  have z39 := (kq _).trans z39
  have k41 := (kq _).trans k41
  have k45 := (kq _).trans k45
  have k46 := (kq _).trans k46
  have n47 := (congrFun nq _).trans n47
  have k48 := (kq _).trans k48
  have n49 := (congrFun nq _).trans n49
  have k50 := (kq _).trans k50
  have n51 := (congrFun nq _).trans n51
  have k52 := (kq _).trans k52
  have n53 := (congrFun nq _).trans n53
  have W := W.trans y
  have hX := hX1
  have hf := hf1
  have ha0 := ha01
  refine en_segs [(125, .aload_n 0, [])] (by decide +kernel) (y := (126, [some (.ref a0)], [.ref a0], h)) rfl ?_
  refine en_newO (N := 13) (by decide +kernel : u_at kl_122 126 = some (.new 81, [7])) hW hX hS rfl (fun h e27 hEe27 hW x k54 f55 hX1 hS1 => ?_)
  have hf := (x.w ha0).2.trans hf
  have ha0 := (x.w ha0).1
  have f4 := (x.w k3).2.trans f4
  have k3 := (x.w k3).1
  have f13 := (x.w k12).2.trans f13
  have k12 := (x.w k12).1
  have f16 := (x.w k15).2.trans f16
  have k15 := (x.w k15).1
  have n2 := (x.2.2.2.2.2.2.2 _ _ k1).trans n2
  have k1 := x.z k1
  have n7 := (x.2.2.2.2.2.2.2 _ _ k6).trans n7
  have k6 := x.z k6
  have n9 := (x.2.2.2.2.2.2.2 _ _ k8).trans n9
  have k8 := x.z k8
  have n11 := (x.2.2.2.2.2.2.2 _ _ k10).trans n11
  have k10 := x.z k10
  have n19 := (x.2.2.2.2.2.2.2 _ _ k18).trans n19
  have k18 := x.z k18
  have n21 := (x.2.2.2.2.2.2.2 _ _ k20).trans n21
  have k20 := x.z k20
  have n23 := (x.2.2.2.2.2.2.2 _ _ k22).trans n23
  have k22 := x.z k22
  have n25 := (x.2.2.2.2.2.2.2 _ _ k24).trans n25
  have k24 := x.z k24
  have n35 := (x.2.2.2.2.2.2.2 _ _ k34).trans n35
  have k34 := x.z k34
  have k31 := x.o k31
  have k33 := x.o k33
  have z38 := x.o z38
  have z39 := x.o z39
  have k41 := x.o k41
  have k45 := x.o k45
  have n47 := (x.2.2.2.1 _ _ k46).trans n47
  have k46 := x.f k46
  have n49 := (x.2.2.2.1 _ _ k48).trans n49
  have k48 := x.f k48
  have n51 := (x.2.2.2.1 _ _ k50).trans n51
  have k50 := x.f k50
  have n53 := (x.2.2.2.1 _ _ k52).trans n53
  have k52 := x.f k52
  have W := W.trans (Adw.of x)
  have hX : aX e27 = aX d + 282 := hX1
  have hS : aS e27 = aS d + 5080 := hS1.trans (Nat.add_assoc _ _ _)
  refine en_segs [(129, .dup, []), (130, .aload_n 0, [])] (by decide +kernel) (y := (131, [some (.ref a0)], [.ref a0, .ref (aX d + 281), .ref (aX d + 281), .ref a0], h)) rfl ?_
  refine en_getr (v := .ref (aX d + 268)) (by decide +kernel : u_at kl_122 131 = some (.getfield 77, [11, 11])) hW ha0 (by rw [hf]; rfl) ?_
  refine en_iwO (e0 := nD_7 e27 (aX d + 281) (aX d + 268)) (w' := mkw c0 (nC_1 c1 (aX d + 12)) c2 c3 c4 c5 (nC_6 c6 e24 (aX d + 268)) (nC_7 c7 (aX d + 281) (aX d + 268)) (nC_8 rr.1 (aX d + 257) (cR rr.1 0 (cR rr.2.1 0 (aX d + 11)))) c9 rr.2.1 c11 c12 (nC13_6 c13 e24)) (r := [.ref (aX d + 281), .ref a0]) (by decide +kernel : u_at kl_122 134 = some (.invokespecial 83, [62, 1, 7])) hW k54 rfl rfl (Nat.le_of_ble_eq_true rfl) (w_62 (D := D) (by omega) hW k54 f55 k45 rfl) (fun h e28 hEe28 hW V56 k57 => ?_)
  have hX1 : aX e28 = aX d + 284 := (congrArg aX hEe28).trans (((nD_7_x e27 (aX d + 281) (aX d + 268)).trans (congrArg (· + 2) hX)).trans (Nat.add_assoc _ _ _))
  have hS1 : aS e28 = aS d + 5236 := (congrArg aS hEe28).trans (((nD_7_s e27 (aX d + 281) (aX d + 268)).trans (congrArg (· + 156) hS)).trans (Nat.add_assoc _ _ _))
  have hf := (V56.w (show a0 ≠ aX d + 281 from (Nat.ne_of_lt (Nat.lt_of_lt_of_le hlt (Nat.le_add_right _ _)))) ha0).2.trans hf
  have ha0 := (V56.w (show a0 ≠ aX d + 281 from (Nat.ne_of_lt (Nat.lt_of_lt_of_le hlt (Nat.le_add_right _ _)))) ha0).1
  have f4 := (V56.w (show aX d + 1 ≠ aX d + 281 from (fun q => absurd (Nat.add_left_cancel q) (by decide))) k3).2.trans f4
  have k3 := (V56.w (show aX d + 1 ≠ aX d + 281 from (fun q => absurd (Nat.add_left_cancel q) (by decide))) k3).1
  have f13 := (V56.w (show aX d + 5 ≠ aX d + 281 from (fun q => absurd (Nat.add_left_cancel q) (by decide))) k12).2.trans f13
  have k12 := (V56.w (show aX d + 5 ≠ aX d + 281 from (fun q => absurd (Nat.add_left_cancel q) (by decide))) k12).1
  have f16 := (V56.w (show aX d + 6 ≠ aX d + 281 from (fun q => absurd (Nat.add_left_cancel q) (by decide))) k15).2.trans f16
  have k15 := (V56.w (show aX d + 6 ≠ aX d + 281 from (fun q => absurd (Nat.add_left_cancel q) (by decide))) k15).1
  have n2 := (V56.2.2.2.2.2.2.2 _ _ (show aX d + 0 ≠ aX d + 281 from (fun q => absurd (Nat.add_left_cancel q) (by decide))) k1).trans n2
  have k1 := V56.z k54 k1
  have n7 := (V56.2.2.2.2.2.2.2 _ _ (show aX d + 2 ≠ aX d + 281 from (fun q => absurd (Nat.add_left_cancel q) (by decide))) k6).trans n7
  have k6 := V56.z k54 k6
  have n9 := (V56.2.2.2.2.2.2.2 _ _ (show aX d + 3 ≠ aX d + 281 from (fun q => absurd (Nat.add_left_cancel q) (by decide))) k8).trans n9
  have k8 := V56.z k54 k8
  have n11 := (V56.2.2.2.2.2.2.2 _ _ (show aX d + 4 ≠ aX d + 281 from (fun q => absurd (Nat.add_left_cancel q) (by decide))) k10).trans n11
  have k10 := V56.z k54 k10
  have n19 := (V56.2.2.2.2.2.2.2 _ _ (show aX d + 7 ≠ aX d + 281 from (fun q => absurd (Nat.add_left_cancel q) (by decide))) k18).trans n19
  have k18 := V56.z k54 k18
  have n21 := (V56.2.2.2.2.2.2.2 _ _ (show aX d + 8 ≠ aX d + 281 from (fun q => absurd (Nat.add_left_cancel q) (by decide))) k20).trans n21
  have k20 := V56.z k54 k20
  have n23 := (V56.2.2.2.2.2.2.2 _ _ (show aX d + 9 ≠ aX d + 281 from (fun q => absurd (Nat.add_left_cancel q) (by decide))) k22).trans n23
  have k22 := V56.z k54 k22
  have n25 := (V56.2.2.2.2.2.2.2 _ _ (show aX d + 10 ≠ aX d + 281 from (fun q => absurd (Nat.add_left_cancel q) (by decide))) k24).trans n25
  have k24 := V56.z k54 k24
  have n35 := (V56.2.2.2.2.2.2.2 _ _ (show aX d + 256 ≠ aX d + 281 from (fun q => absurd (Nat.add_left_cancel q) (by decide))) k34).trans n35
  have k34 := V56.z k54 k34
  have k31 := V56.o k54 k31
  have k33 := V56.o k54 k33
  have z38 := V56.o k54 z38
  have z39 := V56.o k54 z39
  have k41 := V56.o k54 k41
  have k45 := V56.o k54 k45
  have n47 := (V56.2.2.2.1 _ _ (fun z => by rw [z, k54] at k46; cases k46) k46).trans n47
  have k46 := V56.f k54 k46
  have n49 := (V56.2.2.2.1 _ _ (fun z => by rw [z, k54] at k48; cases k48) k48).trans n49
  have k48 := V56.f k54 k48
  have n51 := (V56.2.2.2.1 _ _ (fun z => by rw [z, k54] at k50; cases k50) k50).trans n51
  have k50 := V56.f k54 k50
  have n53 := (V56.2.2.2.1 _ _ (fun z => by rw [z, k54] at k52; cases k52) k52).trans n53
  have k52 := V56.f k54 k52
  have W := Adw.skip hd0 (Nat.le_add_right _ _) W V56
  have hX := hX1
  have hS := hS1
  refine en_putA (fs' := [.ref (aX d + 0), .int 0, .ref (aX d + 1), .ref (aX d + 5), .ref (aX d + 6), .ref (aX d + 10), .int 0, .ref (aX d + 11), .ref (aX d + 256), .ref (aX d + 257), .long 0, .ref (aX d + 268), .ref (aX d + 281), .null, .null]) (by decide +kernel : u_at kl_122 137 = some (.putfield 86, [11, 12, 3])) hW ha0 hf (Nat.le_of_ble_eq_true rfl) rfl rfl hX (fun h e29 hEe29 hW kq nq hX1 hf1 ha01 y => ?_)
  have hS : aS e29 = aS d + 5236 := by rw [hEe29]; exact hS
  have f4 := (y.w (Nat.ne_of_gt (Nat.lt_of_lt_of_le hlt (Nat.le_add_right _ _))) k3).2.trans f4
  have k3 := (kq _).trans k3
  have f13 := (y.w (Nat.ne_of_gt (Nat.lt_of_lt_of_le hlt (Nat.le_add_right _ _))) k12).2.trans f13
  have k12 := (kq _).trans k12
  have f16 := (y.w (Nat.ne_of_gt (Nat.lt_of_lt_of_le hlt (Nat.le_add_right _ _))) k15).2.trans f16
  have k15 := (kq _).trans k15
  have k1 := (kq _).trans k1
  have n2 := (congrFun nq _).trans n2
  have k6 := (kq _).trans k6
  have n7 := (congrFun nq _).trans n7
  have k8 := (kq _).trans k8
  have n9 := (congrFun nq _).trans n9
  have k10 := (kq _).trans k10
  have n11 := (congrFun nq _).trans n11
  have k18 := (kq _).trans k18
  have n19 := (congrFun nq _).trans n19
  have k20 := (kq _).trans k20
  have n21 := (congrFun nq _).trans n21
  have k22 := (kq _).trans k22
  have n23 := (congrFun nq _).trans n23
  have k24 := (kq _).trans k24
  have n25 := (congrFun nq _).trans n25
  have k34 := (kq _).trans k34
  have n35 := (congrFun nq _).trans n35
  have k31 := (kq _).trans k31
  have k33 := (kq _).trans k33
  have z38 := (kq _).trans z38
  have z39 := (kq _).trans z39
  have k41 := (kq _).trans k41
  have k45 := (kq _).trans k45
  have k57 := (kq _).trans k57
  have k46 := (kq _).trans k46
  have n47 := (congrFun nq _).trans n47
  have k48 := (kq _).trans k48
  have n49 := (congrFun nq _).trans n49
  have k50 := (kq _).trans k50
  have n51 := (congrFun nq _).trans n51
  have k52 := (kq _).trans k52
  have n53 := (congrFun nq _).trans n53
  have W := W.trans y
  have hX := hX1
  have hf := hf1
  have ha0 := ha01
  refine en_segs [(140, .aload_n 0, [])] (by decide +kernel) (y := (141, [some (.ref a0)], [.ref a0], h)) rfl ?_
  refine en_newO (N := 12) (by decide +kernel : u_at kl_122 141 = some (.new 90, [0])) hW hX hS rfl (fun h e30 hEe30 hW x k58 f59 hX1 hS1 => ?_)
  have hf := (x.w ha0).2.trans hf
  have ha0 := (x.w ha0).1
  have f4 := (x.w k3).2.trans f4
  have k3 := (x.w k3).1
  have f13 := (x.w k12).2.trans f13
  have k12 := (x.w k12).1
  have f16 := (x.w k15).2.trans f16
  have k15 := (x.w k15).1
  have n2 := (x.2.2.2.2.2.2.2 _ _ k1).trans n2
  have k1 := x.z k1
  have n7 := (x.2.2.2.2.2.2.2 _ _ k6).trans n7
  have k6 := x.z k6
  have n9 := (x.2.2.2.2.2.2.2 _ _ k8).trans n9
  have k8 := x.z k8
  have n11 := (x.2.2.2.2.2.2.2 _ _ k10).trans n11
  have k10 := x.z k10
  have n19 := (x.2.2.2.2.2.2.2 _ _ k18).trans n19
  have k18 := x.z k18
  have n21 := (x.2.2.2.2.2.2.2 _ _ k20).trans n21
  have k20 := x.z k20
  have n23 := (x.2.2.2.2.2.2.2 _ _ k22).trans n23
  have k22 := x.z k22
  have n25 := (x.2.2.2.2.2.2.2 _ _ k24).trans n25
  have k24 := x.z k24
  have n35 := (x.2.2.2.2.2.2.2 _ _ k34).trans n35
  have k34 := x.z k34
  have k31 := x.o k31
  have k33 := x.o k33
  have z38 := x.o z38
  have z39 := x.o z39
  have k41 := x.o k41
  have k45 := x.o k45
  have k57 := x.o k57
  have n47 := (x.2.2.2.1 _ _ k46).trans n47
  have k46 := x.f k46
  have n49 := (x.2.2.2.1 _ _ k48).trans n49
  have k48 := x.f k48
  have n51 := (x.2.2.2.1 _ _ k50).trans n51
  have k50 := x.f k50
  have n53 := (x.2.2.2.1 _ _ k52).trans n53
  have k52 := x.f k52
  have W := W.trans (Adw.of x)
  have hX : aX e30 = aX d + 285 := hX1
  have hS : aS e30 = aS d + 5248 := hS1.trans (Nat.add_assoc _ _ _)
  refine en_segs [(144, .dup, []), (145, .aload_n 0, [])] (by decide +kernel) (y := (146, [some (.ref a0)], [.ref a0, .ref (aX d + 284), .ref (aX d + 284), .ref a0], h)) rfl ?_
  refine en_getr (v := .ref (aX d + 268)) (by decide +kernel : u_at kl_122 146 = some (.getfield 77, [11, 11])) hW ha0 (by rw [hf]; rfl) ?_
  refine en_iwO (e0 := nD_0 e30 (aX d + 284) (aX d + 268)) (w' := mkw (nC_0 c0 (aX d + 284) (aX d + 268)) (nC_1 c1 (aX d + 12)) c2 c3 c4 c5 (nC_6 c6 e24 (aX d + 268)) (nC_7 c7 (aX d + 281) (aX d + 268)) (nC_8 rr.1 (aX d + 257) (cR rr.1 0 (cR rr.2.1 0 (aX d + 11)))) c9 rr.2.1 c11 c12 (nC13_6 c13 e24)) (r := [.ref (aX d + 284), .ref a0]) (by decide +kernel : u_at kl_122 149 = some (.invokespecial 92, [0, 1, 0])) hW k58 rfl rfl (Nat.le_of_ble_eq_true rfl) (w_0 (D := D) (by omega) hW k58 f59 k45 rfl) (fun h e31 hEe31 hW V60 k61 => ?_)
  have hX1 : aX e31 = aX d + 285 := (congrArg aX hEe31).trans (((nD_0_x e30 (aX d + 284) (aX d + 268)).trans (congrArg (· + 0) hX)).trans (Nat.add_assoc _ _ _))
  have hS1 : aS e31 = aS d + 5248 := (congrArg aS hEe31).trans (((nD_0_s e30 (aX d + 284) (aX d + 268)).trans (congrArg (· + 0) hS)).trans (Nat.add_assoc _ _ _))
  have hf := (V60.w (show a0 ≠ aX d + 284 from (Nat.ne_of_lt (Nat.lt_of_lt_of_le hlt (Nat.le_add_right _ _)))) ha0).2.trans hf
  have ha0 := (V60.w (show a0 ≠ aX d + 284 from (Nat.ne_of_lt (Nat.lt_of_lt_of_le hlt (Nat.le_add_right _ _)))) ha0).1
  have f4 := (V60.w (show aX d + 1 ≠ aX d + 284 from (fun q => absurd (Nat.add_left_cancel q) (by decide))) k3).2.trans f4
  have k3 := (V60.w (show aX d + 1 ≠ aX d + 284 from (fun q => absurd (Nat.add_left_cancel q) (by decide))) k3).1
  have f13 := (V60.w (show aX d + 5 ≠ aX d + 284 from (fun q => absurd (Nat.add_left_cancel q) (by decide))) k12).2.trans f13
  have k12 := (V60.w (show aX d + 5 ≠ aX d + 284 from (fun q => absurd (Nat.add_left_cancel q) (by decide))) k12).1
  have f16 := (V60.w (show aX d + 6 ≠ aX d + 284 from (fun q => absurd (Nat.add_left_cancel q) (by decide))) k15).2.trans f16
  have k15 := (V60.w (show aX d + 6 ≠ aX d + 284 from (fun q => absurd (Nat.add_left_cancel q) (by decide))) k15).1
  have n2 := (V60.2.2.2.2.2.2.2 _ _ (show aX d + 0 ≠ aX d + 284 from (fun q => absurd (Nat.add_left_cancel q) (by decide))) k1).trans n2
  have k1 := V60.z k58 k1
  have n7 := (V60.2.2.2.2.2.2.2 _ _ (show aX d + 2 ≠ aX d + 284 from (fun q => absurd (Nat.add_left_cancel q) (by decide))) k6).trans n7
  have k6 := V60.z k58 k6
  have n9 := (V60.2.2.2.2.2.2.2 _ _ (show aX d + 3 ≠ aX d + 284 from (fun q => absurd (Nat.add_left_cancel q) (by decide))) k8).trans n9
  have k8 := V60.z k58 k8
  have n11 := (V60.2.2.2.2.2.2.2 _ _ (show aX d + 4 ≠ aX d + 284 from (fun q => absurd (Nat.add_left_cancel q) (by decide))) k10).trans n11
  have k10 := V60.z k58 k10
  have n19 := (V60.2.2.2.2.2.2.2 _ _ (show aX d + 7 ≠ aX d + 284 from (fun q => absurd (Nat.add_left_cancel q) (by decide))) k18).trans n19
  have k18 := V60.z k58 k18
  have n21 := (V60.2.2.2.2.2.2.2 _ _ (show aX d + 8 ≠ aX d + 284 from (fun q => absurd (Nat.add_left_cancel q) (by decide))) k20).trans n21
  have k20 := V60.z k58 k20
  have n23 := (V60.2.2.2.2.2.2.2 _ _ (show aX d + 9 ≠ aX d + 284 from (fun q => absurd (Nat.add_left_cancel q) (by decide))) k22).trans n23
  have k22 := V60.z k58 k22
  have n25 := (V60.2.2.2.2.2.2.2 _ _ (show aX d + 10 ≠ aX d + 284 from (fun q => absurd (Nat.add_left_cancel q) (by decide))) k24).trans n25
  have k24 := V60.z k58 k24
  have n35 := (V60.2.2.2.2.2.2.2 _ _ (show aX d + 256 ≠ aX d + 284 from (fun q => absurd (Nat.add_left_cancel q) (by decide))) k34).trans n35
  have k34 := V60.z k58 k34
  have k31 := V60.o k58 k31
  have k33 := V60.o k58 k33
  have z38 := V60.o k58 z38
  have z39 := V60.o k58 z39
  have k41 := V60.o k58 k41
  have k45 := V60.o k58 k45
  have k57 := V60.o k58 k57
  have n47 := (V60.2.2.2.1 _ _ (fun z => by rw [z, k58] at k46; cases k46) k46).trans n47
  have k46 := V60.f k58 k46
  have n49 := (V60.2.2.2.1 _ _ (fun z => by rw [z, k58] at k48; cases k48) k48).trans n49
  have k48 := V60.f k58 k48
  have n51 := (V60.2.2.2.1 _ _ (fun z => by rw [z, k58] at k50; cases k50) k50).trans n51
  have k50 := V60.f k58 k50
  have n53 := (V60.2.2.2.1 _ _ (fun z => by rw [z, k58] at k52; cases k52) k52).trans n53
  have k52 := V60.f k58 k52
  have W := Adw.skip hd0 (Nat.le_add_right _ _) W V60
  have hX := hX1
  have hS := hS1
  refine en_putA (fs' := [.ref (aX d + 0), .int 0, .ref (aX d + 1), .ref (aX d + 5), .ref (aX d + 6), .ref (aX d + 10), .int 0, .ref (aX d + 11), .ref (aX d + 256), .ref (aX d + 257), .long 0, .ref (aX d + 268), .ref (aX d + 281), .ref (aX d + 284), .null]) (by decide +kernel : u_at kl_122 152 = some (.putfield 93, [11, 13, 3])) hW ha0 hf (Nat.le_of_ble_eq_true rfl) rfl rfl hX (fun h e32 hEe32 hW kq nq hX1 hf1 ha01 y => ?_)
  have hS : aS e32 = aS d + 5248 := by rw [hEe32]; exact hS
  have f4 := (y.w (Nat.ne_of_gt (Nat.lt_of_lt_of_le hlt (Nat.le_add_right _ _))) k3).2.trans f4
  have k3 := (kq _).trans k3
  have f13 := (y.w (Nat.ne_of_gt (Nat.lt_of_lt_of_le hlt (Nat.le_add_right _ _))) k12).2.trans f13
  have k12 := (kq _).trans k12
  have f16 := (y.w (Nat.ne_of_gt (Nat.lt_of_lt_of_le hlt (Nat.le_add_right _ _))) k15).2.trans f16
  have k15 := (kq _).trans k15
  have k1 := (kq _).trans k1
  have n2 := (congrFun nq _).trans n2
  have k6 := (kq _).trans k6
  have n7 := (congrFun nq _).trans n7
  have k8 := (kq _).trans k8
  have n9 := (congrFun nq _).trans n9
  have k10 := (kq _).trans k10
  have n11 := (congrFun nq _).trans n11
  have k18 := (kq _).trans k18
  have n19 := (congrFun nq _).trans n19
  have k20 := (kq _).trans k20
  have n21 := (congrFun nq _).trans n21
  have k22 := (kq _).trans k22
  have n23 := (congrFun nq _).trans n23
  have k24 := (kq _).trans k24
  have n25 := (congrFun nq _).trans n25
  have k34 := (kq _).trans k34
  have n35 := (congrFun nq _).trans n35
  have k31 := (kq _).trans k31
  have k33 := (kq _).trans k33
  have z38 := (kq _).trans z38
  have z39 := (kq _).trans z39
  have k41 := (kq _).trans k41
  have k45 := (kq _).trans k45
  have k57 := (kq _).trans k57
  have k61 := (kq _).trans k61
  have k46 := (kq _).trans k46
  have n47 := (congrFun nq _).trans n47
  have k48 := (kq _).trans k48
  have n49 := (congrFun nq _).trans n49
  have k50 := (kq _).trans k50
  have n51 := (congrFun nq _).trans n51
  have k52 := (kq _).trans k52
  have n53 := (congrFun nq _).trans n53
  have W := W.trans y
  have hX := hX1
  have hf := hf1
  have ha0 := ha01
  refine en_segs [(155, .aload_n 0, [])] (by decide +kernel) (y := (156, [some (.ref a0)], [.ref a0], h)) rfl ?_
  refine en_newO (N := 9) (by decide +kernel : u_at kl_122 156 = some (.new 97, [9])) hW hX hS rfl (fun h e33 hEe33 hW x k62 f63 hX1 hS1 => ?_)
  have hf := (x.w ha0).2.trans hf
  have ha0 := (x.w ha0).1
  have f4 := (x.w k3).2.trans f4
  have k3 := (x.w k3).1
  have f13 := (x.w k12).2.trans f13
  have k12 := (x.w k12).1
  have f16 := (x.w k15).2.trans f16
  have k15 := (x.w k15).1
  have n2 := (x.2.2.2.2.2.2.2 _ _ k1).trans n2
  have k1 := x.z k1
  have n7 := (x.2.2.2.2.2.2.2 _ _ k6).trans n7
  have k6 := x.z k6
  have n9 := (x.2.2.2.2.2.2.2 _ _ k8).trans n9
  have k8 := x.z k8
  have n11 := (x.2.2.2.2.2.2.2 _ _ k10).trans n11
  have k10 := x.z k10
  have n19 := (x.2.2.2.2.2.2.2 _ _ k18).trans n19
  have k18 := x.z k18
  have n21 := (x.2.2.2.2.2.2.2 _ _ k20).trans n21
  have k20 := x.z k20
  have n23 := (x.2.2.2.2.2.2.2 _ _ k22).trans n23
  have k22 := x.z k22
  have n25 := (x.2.2.2.2.2.2.2 _ _ k24).trans n25
  have k24 := x.z k24
  have n35 := (x.2.2.2.2.2.2.2 _ _ k34).trans n35
  have k34 := x.z k34
  have k31 := x.o k31
  have k33 := x.o k33
  have z38 := x.o z38
  have z39 := x.o z39
  have k41 := x.o k41
  have k45 := x.o k45
  have k57 := x.o k57
  have k61 := x.o k61
  have n47 := (x.2.2.2.1 _ _ k46).trans n47
  have k46 := x.f k46
  have n49 := (x.2.2.2.1 _ _ k48).trans n49
  have k48 := x.f k48
  have n51 := (x.2.2.2.1 _ _ k50).trans n51
  have k50 := x.f k50
  have n53 := (x.2.2.2.1 _ _ k52).trans n53
  have k52 := x.f k52
  have W := W.trans (Adw.of x)
  have hX : aX e33 = aX d + 286 := hX1
  have hS : aS e33 = aS d + 5257 := hS1.trans (Nat.add_assoc _ _ _)
  refine en_segs [(159, .dup, []), (160, .aload_n 0, [])] (by decide +kernel) (y := (161, [some (.ref a0)], [.ref a0, .ref (aX d + 285), .ref (aX d + 285), .ref a0], h)) rfl ?_
  refine en_getr (v := .ref (aX d + 268)) (by decide +kernel : u_at kl_122 161 = some (.getfield 77, [11, 11])) hW ha0 (by rw [hf]; rfl) ?_
  have hXs9 := hX
  have fr9 := fr_107 hW k62 f63 k45 
  rw [hX] at fr9
  refine en_iwO (e0 := nD_9 e33 (aX d + 285) (aX d + 268)) (w' := mkw (nC_0 c0 (aX d + 284) (aX d + 268)) (nC_1 c1 (aX d + 12)) c2 c3 c4 c5 (nC_6 c6 e24 (aX d + 268)) (nC_7 c7 (aX d + 281) (aX d + 268)) (nC_8 rr.1 (aX d + 257) (cR rr.1 0 (cR rr.2.1 0 (aX d + 11)))) (nC_9 c9 e33 (aX d + 285) (aX d + 268)) rr.2.1 c11 c12 (nC13_9 (nC13_6 c13 e24) e33)) (r := [.ref (aX d + 285), .ref a0]) (by decide +kernel : u_at kl_122 164 = some (.invokespecial 99, [107, 1, 9])) hW k62 rfl rfl (Nat.le_of_ble_eq_true rfl) (w_107 (D := D) (by omega) hW k62 f63 k45 rfl) (fun h e34 hEe34 hW V64 k65 => ?_)
  have hX1 : aX e34 = aX d + 293 := (congrArg aX hEe34).trans (((nD_9_x e33 (aX d + 285) (aX d + 268)).trans (congrArg (· + 7) hX)).trans (Nat.add_assoc _ _ _))
  have hS1 : aS e34 = aS d + 5505 := (congrArg aS hEe34).trans (((nD_9_s e33 (aX d + 285) (aX d + 268)).trans (congrArg (· + 248) hS)).trans (Nat.add_assoc _ _ _))
  have hf := (V64.w (show a0 ≠ aX d + 285 from (Nat.ne_of_lt (Nat.lt_of_lt_of_le hlt (Nat.le_add_right _ _)))) ha0).2.trans hf
  have ha0 := (V64.w (show a0 ≠ aX d + 285 from (Nat.ne_of_lt (Nat.lt_of_lt_of_le hlt (Nat.le_add_right _ _)))) ha0).1
  have f4 := (V64.w (show aX d + 1 ≠ aX d + 285 from (fun q => absurd (Nat.add_left_cancel q) (by decide))) k3).2.trans f4
  have k3 := (V64.w (show aX d + 1 ≠ aX d + 285 from (fun q => absurd (Nat.add_left_cancel q) (by decide))) k3).1
  have f13 := (V64.w (show aX d + 5 ≠ aX d + 285 from (fun q => absurd (Nat.add_left_cancel q) (by decide))) k12).2.trans f13
  have k12 := (V64.w (show aX d + 5 ≠ aX d + 285 from (fun q => absurd (Nat.add_left_cancel q) (by decide))) k12).1
  have f16 := (V64.w (show aX d + 6 ≠ aX d + 285 from (fun q => absurd (Nat.add_left_cancel q) (by decide))) k15).2.trans f16
  have k15 := (V64.w (show aX d + 6 ≠ aX d + 285 from (fun q => absurd (Nat.add_left_cancel q) (by decide))) k15).1
  have n2 := (V64.2.2.2.2.2.2.2 _ _ (show aX d + 0 ≠ aX d + 285 from (fun q => absurd (Nat.add_left_cancel q) (by decide))) k1).trans n2
  have k1 := V64.z k62 k1
  have n7 := (V64.2.2.2.2.2.2.2 _ _ (show aX d + 2 ≠ aX d + 285 from (fun q => absurd (Nat.add_left_cancel q) (by decide))) k6).trans n7
  have k6 := V64.z k62 k6
  have n9 := (V64.2.2.2.2.2.2.2 _ _ (show aX d + 3 ≠ aX d + 285 from (fun q => absurd (Nat.add_left_cancel q) (by decide))) k8).trans n9
  have k8 := V64.z k62 k8
  have n11 := (V64.2.2.2.2.2.2.2 _ _ (show aX d + 4 ≠ aX d + 285 from (fun q => absurd (Nat.add_left_cancel q) (by decide))) k10).trans n11
  have k10 := V64.z k62 k10
  have n19 := (V64.2.2.2.2.2.2.2 _ _ (show aX d + 7 ≠ aX d + 285 from (fun q => absurd (Nat.add_left_cancel q) (by decide))) k18).trans n19
  have k18 := V64.z k62 k18
  have n21 := (V64.2.2.2.2.2.2.2 _ _ (show aX d + 8 ≠ aX d + 285 from (fun q => absurd (Nat.add_left_cancel q) (by decide))) k20).trans n21
  have k20 := V64.z k62 k20
  have n23 := (V64.2.2.2.2.2.2.2 _ _ (show aX d + 9 ≠ aX d + 285 from (fun q => absurd (Nat.add_left_cancel q) (by decide))) k22).trans n23
  have k22 := V64.z k62 k22
  have n25 := (V64.2.2.2.2.2.2.2 _ _ (show aX d + 10 ≠ aX d + 285 from (fun q => absurd (Nat.add_left_cancel q) (by decide))) k24).trans n25
  have k24 := V64.z k62 k24
  have n35 := (V64.2.2.2.2.2.2.2 _ _ (show aX d + 256 ≠ aX d + 285 from (fun q => absurd (Nat.add_left_cancel q) (by decide))) k34).trans n35
  have k34 := V64.z k62 k34
  have k31 := V64.o k62 k31
  have k33 := V64.o k62 k33
  have z38 := V64.o k62 z38
  have z39 := V64.o k62 z39
  have k41 := V64.o k62 k41
  have k45 := V64.o k62 k45
  have k57 := V64.o k62 k57
  have k61 := V64.o k62 k61
  have n47 := (V64.2.2.2.1 _ _ (fun z => by rw [z, k62] at k46; cases k46) k46).trans n47
  have k46 := V64.f k62 k46
  have n49 := (V64.2.2.2.1 _ _ (fun z => by rw [z, k62] at k48; cases k48) k48).trans n49
  have k48 := V64.f k62 k48
  have n51 := (V64.2.2.2.1 _ _ (fun z => by rw [z, k62] at k50; cases k50) k50).trans n51
  have k50 := V64.f k62 k50
  have n53 := (V64.2.2.2.1 _ _ (fun z => by rw [z, k62] at k52; cases k52) k52).trans n53
  have k52 := V64.f k62 k52
  rw [← hEe34] at fr9
  obtain ⟨⟨k66, n67⟩, ⟨k68, n69⟩⟩ := fr9
  replace k66 : aK e34 (aX d + 289) = (2, 2, 0) := k66
  replace n67 : aN e34 (aX d + 289) = 64 := n67
  replace k68 : aK e34 (aX d + 290) = (2, 2, 0) := k68
  replace n69 : aN e34 (aX d + 290) = 64 := n69
  have W := Adw.skip hd0 (Nat.le_add_right _ _) W V64
  have hX := hX1
  have hS := hS1
  refine en_putA (fs' := [.ref (aX d + 0), .int 0, .ref (aX d + 1), .ref (aX d + 5), .ref (aX d + 6), .ref (aX d + 10), .int 0, .ref (aX d + 11), .ref (aX d + 256), .ref (aX d + 257), .long 0, .ref (aX d + 268), .ref (aX d + 281), .ref (aX d + 284), .ref (aX d + 285)]) (by decide +kernel : u_at kl_122 167 = some (.putfield 100, [11, 14, 3])) hW ha0 hf (Nat.le_of_ble_eq_true rfl) rfl rfl hX (fun h e35 hEe35 hW kq nq hX1 hf1 ha01 y => ?_)
  have hS : aS e35 = aS d + 5505 := by rw [hEe35]; exact hS
  have f4 := (y.w (Nat.ne_of_gt (Nat.lt_of_lt_of_le hlt (Nat.le_add_right _ _))) k3).2.trans f4
  have k3 := (kq _).trans k3
  have f13 := (y.w (Nat.ne_of_gt (Nat.lt_of_lt_of_le hlt (Nat.le_add_right _ _))) k12).2.trans f13
  have k12 := (kq _).trans k12
  have f16 := (y.w (Nat.ne_of_gt (Nat.lt_of_lt_of_le hlt (Nat.le_add_right _ _))) k15).2.trans f16
  have k15 := (kq _).trans k15
  have k1 := (kq _).trans k1
  have n2 := (congrFun nq _).trans n2
  have k6 := (kq _).trans k6
  have n7 := (congrFun nq _).trans n7
  have k8 := (kq _).trans k8
  have n9 := (congrFun nq _).trans n9
  have k10 := (kq _).trans k10
  have n11 := (congrFun nq _).trans n11
  have k18 := (kq _).trans k18
  have n19 := (congrFun nq _).trans n19
  have k20 := (kq _).trans k20
  have n21 := (congrFun nq _).trans n21
  have k22 := (kq _).trans k22
  have n23 := (congrFun nq _).trans n23
  have k24 := (kq _).trans k24
  have n25 := (congrFun nq _).trans n25
  have k34 := (kq _).trans k34
  have n35 := (congrFun nq _).trans n35
  have k31 := (kq _).trans k31
  have k33 := (kq _).trans k33
  have z38 := (kq _).trans z38
  have z39 := (kq _).trans z39
  have k41 := (kq _).trans k41
  have k45 := (kq _).trans k45
  have k57 := (kq _).trans k57
  have k61 := (kq _).trans k61
  have k65 := (kq _).trans k65
  have k46 := (kq _).trans k46
  have n47 := (congrFun nq _).trans n47
  have k48 := (kq _).trans k48
  have n49 := (congrFun nq _).trans n49
  have k50 := (kq _).trans k50
  have n51 := (congrFun nq _).trans n51
  have k52 := (kq _).trans k52
  have n53 := (congrFun nq _).trans n53
  have k66 := (kq _).trans k66
  have n67 := (congrFun nq _).trans n67
  have k68 := (kq _).trans k68
  have n69 := (congrFun nq _).trans n69
  have W := W.trans y
  have hX := hX1
  have hf := hf1
  have ha0 := ha01
  have hO := hw_hc hlt hW ha0 hf k3 f4 k12 f13 k15 f16 k1 n2 k6 n7 k8 n9 k10 n11 k18 n19 k20 n21 k22 n23 k24 n25 k34 n35 k33 k41 k45 k57 k61 k65
  exact en_ret (by decide +kernel : u_at kl_122 170 = some (.return_, [])) rfl ⟨rfl, rr, ow11 e35 a0 (aX d), e24, e33, hO, hXs6, hXs9, rr1, rr2, hX, hS, ow11_w hd0 W, by rw [ow11_K, if_pos rfl], ⟨n47, n49, n51, n53, n67, n69⟩, ⟨ow11_F (by decide) k46 hlt, ow11_F (by decide) k48 hlt, ow11_F (by decide) k50 hlt, ow11_F (by decide) k52 hlt, ow11_F (by decide) k66 hlt, ow11_F (by decide) k68 hlt⟩⟩
