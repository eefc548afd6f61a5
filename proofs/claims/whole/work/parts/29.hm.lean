section Rows13
variable {h : UH} {w : Wd} {d : Ad}
theorem hw_own3 (hW : HW w d h) {c a X p : Nat} {l : List (Option Nat)} {x : Cl} (hc : c < 13) (hk : aK d a = (3, c, 0)) (hl : ownC c l = true)
    (ht : ∀ i k, l[i]? = some (some k) → X + i ≠ p → aK d (X + i) = (4, (sd c k).2.1, 0) ∧ aN d (X + i) = (sd c k).2.2 ∧ cA x k a = (fun _ => 0) ∧ cB x k a = fun _ => 0)
    (hp : ∀ i k, l[i]? = some (some k) → X + i = p → aK d p = (2, (sd c k).2.1, 0) ∧ aN d p = (sd c k).2.2 ∧ arrc x (sd c k).2.1 (sd c k).2.2 k a = arrc (wg 13 w) (sd c k).2.1 (sd c k).2.2 0 p)
    (hx : ∀ k b, b ≠ a → cI x k b = cI (wg c w) k b ∧ cJ x k b = cJ (wg c w) k b ∧ cR x k b = cR (wg c w) k b ∧ cA x k b = cA (wg c w) k b ∧ cB x k b = cB (wg c w) k b ∧ cQ x k b = cQ (wg c w) k b)
    (hq : ∀ k, cQ x k a = fun _ => none)
    (hf : aF d a = flds (ws c w x) (own d c a X l) c a) (hw : ∀ k, k < nsl c → (sd c k).1 ≠ 3 → wfs (ws c w x) (own d c a X l) c k a)
    (t2 : ∀ b c' k, aK d b = (0, c', 0) → k < nsl c' → (sd c' k).1 = 4 → cR (wg c' w) k b < X) : HW (ws c w x) (own d c a X l) h := by
  have hne : ∀ i k, l[i]? = some (some k) → X + i ≠ a := fun i k e q => by
    by_cases z : X + i = p
    · have := (hp i k e z).1; rw [← z, q, hk] at this; cases this
    · have := (ht i k e z).1; rw [q, hk] at this; cases this
  refine hw_own12 hW (fun b => b = a) (fun b => ∃ i k, l[i]? = some (some k) ∧ b = X + i) rfl rfl rfl rfl rfl rfl (fun b g1 g2 => ?_) (fun b c' k g => ?_) (fun b g => ?_) (fun c' k b g1 g2 => ?_) ?_ (fun b g => ?_) (fun b g => ?_) (fun b c' k e1 e2 e3 => ?_)
  · rw [own_K, if_neg g1, ownS_n g2]
  · rw [own_P, if_neg g]
  · rw [own_O, ownS_n g]
  · by_cases e : c' = c
    · subst e
      rw [wg_ws w x (by omega)]
      exact hx k b g2
    · rw [wg_ne w x (by omega) (by omega) e]
      exact ⟨rfl, rfl, rfl, rfl, rfl, rfl⟩
  · exact wg_ne w x (by omega) (by omega) (by omega)
  · have g' : b = a := g
    subst g'
    refine ⟨c, hc, hk, by rw [own_K, if_pos rfl], hf, fun k hn => ?_⟩
    by_cases h3 : (sd c k).1 = 3
    · have e := ownC2 hl k hn h3
      have hne := hne _ k e
      unfold wfs
      split
      · rename_i g; rw [g] at h3; cases h3
      · refine ⟨?_, ?_, fun _ j q hq' => ?_⟩
        · rw [own_P, if_pos rfl, own_K, if_neg hne, ownS_i e]
        · rw [own_P, if_pos rfl, own_O, ownS_i e]
        · rw [wg_ws w x (by omega), hq k] at hq'; cases hq'
      · rename_i g; rw [g] at h3; cases h3
      · rename_i g; rw [g] at h3; cases h3
      · trivial
    · exact hw k hn h3
  · obtain ⟨i, k, e, rfl⟩ := g
    have eO : aO (own d c a X l) (X + i) = a := by rw [own_O, ownS_i e]
    refine ⟨(sd c k).2.1, c, k, ?_, by rw [own_K, if_neg (hne i k e), ownS_i e], by rw [eO, own_K, if_pos rfl], (ownC1 hl i k e).1, by rw [eO, own_P, if_pos rfl, (ownC1 hl i k e).2.1]⟩
    rw [eO, wg_ws w x (by omega)]
    by_cases z : X + i = p
    · right
      obtain ⟨g1, g2, g3⟩ := hp i k e z
      rw [z, g2]
      exact ⟨g1, g3⟩
    · left
      obtain ⟨g1, g2, g3, g4⟩ := ht i k e z
      rw [g2]
      exact ⟨g1, arr0 g3 g4 (hq k)⟩
  · rintro ⟨i, k', -, q⟩
    have := t2 b c' k e1 e2 e3
    omega
end Rows13
def l12 : List (Option Nat) := [some 0, some 3, some 4, some 5, some 6, some 7, some 15, some 17, some 19, some 20, some 22, some 24, some 25, some 26, some 27, some 28, some 29, some 30, some 32, some 33, some 34, some 35, some 36, some 37, some 38, some 40, some 41, some 42, some 43, some 44, some 45, some 47, some 48, some 49, some 50, some 51]
theorem l12_ok : ownC 12 l12 = true := by decide +kernel
set_option maxRecDepth 100000 in
set_option maxHeartbeats 8000000 in
theorem e_169 {D : Nat} {c0 c1 c2 c3 c4 c5 c6 c7 c8 c9 c10 c11 c12 c13 : Cl} {d : Ad} {h : UH} {a0 : Nat} (hD : 1 ≤ D) (hW : HW (mkw c0 c1 c2 c3 c4 c5 c6 c7 c8 c9 c10 c11 c12 c13) d h) (ha0 : aK d a0 = (3, 12, 0)) (hf : aF d a0 = u_def 12) : ∃ q, EX D 169 [.ref a0] h q ∧ q.1 = none ∧ ∃ (y : Cl) (e : Ad), HW (mkw c0 c1 c2 c3 c4 c5 c6 c7 c8 c9 c10 c11 (sA (zat c12 a0) 25 a0 (cA y 0 (aX d + 12))) y) e q.2 ∧ (cA y 0 (aX d + 12) 0 = 7776 ∧ cA y 0 (aX d + 12) 1 = 1296 ∧ cA y 0 (aX d + 12) 2 = 216 ∧ cA y 0 (aX d + 12) 3 = 36 ∧ cA y 0 (aX d + 12) 4 = 6 ∧ cA y 0 (aX d + 12) 5 = 1) ∧ (∀ b, b ≠ aX d + 12 → cA y 0 b = cA c13 0 b) ∧ cB y = cB c13 ∧ aX e = aX d + 36 ∧ aS e = aS d + 307005 ∧ Adw a0 d e ∧ aK e a0 = (0, 12, 0) := by
  obtain ⟨D, rfl⟩ : ∃ E, D = E + 1 := ⟨D - 1, by omega⟩
  have hd0 := hW
  have hlt := hw_old hW ha0 (by decide)
  have W : Adw a0 d d := Adw.of Adx.rf
  have hB : ∀ b c, aK d b = (0, c, 0) → aK d b = (0, c, 0) := fun _ _ q => q
  refine ex_in (kl := kl_169) (nL := 1) rfl (by decide +kernel) (Nat.le_of_ble_eq_true rfl) ?_
  show Ends (EX D) (u_at kl_169) (0, [some (.ref a0)], [], h) _
  have hX : aX d = aX d + 0 := rfl
  have hS : aS d = aS d + 0 := rfl
  have hf : aF d a0 = [.null, .int 0, .int 0, .null, .null, .null, .null, .null, .int 0, .int 0, .int 0, .int 0, .int 0, .int 0, .int 0, .null, .int 0, .null, .int 0, .null, .null, .int 0, .null, .int 0, .null, .null, .null, .null, .null, .null, .null, .int 0, .null, .null, .null, .null, .null, .null, .null, .int 0, .null, .null, .null, .null, .null, .null, .long 0, .null, .null, .null, .null, .null] := hf
  refine en_segs [(0, .aload_n 0, []), (1, .invokespecial 1, []), (4, .aload_n 0, []), (5, .sipush 400, [])] (by decide +kernel) (y := (8, [some (.ref a0)], [.int 400, .ref a0], h)) rfl ?_
  refine en_nzO (N := 400) (by decide +kernel : u_at kl_169 8 = some (.newarray .byte, [0])) hW (by decide +kernel) (by decide +kernel) rfl hX hS (fun h e1 hEe1 hW x k1 n2 hX1 hS1 => ?_)
  have hf := (x.w ha0).2.trans hf
  have ha0 := (x.w ha0).1
  have W := W.trans (Adw.of x)
  have hX : aX e1 = aX d + 1 := hX1
  have hS : aS e1 = aS d + 400 := hS1.trans (Nat.add_assoc _ _ _)
  have hB : ∀ b c, aK e1 b = (0, c, 0) → aK d b = (0, c, 0) := fun b c q => hB b c (bk_z (by rw [hEe1] at q; exact q))
  refine en_putA (fs' := [.ref (aX d + 0), .int 0, .int 0, .null, .null, .null, .null, .null, .int 0, .int 0, .int 0, .int 0, .int 0, .int 0, .int 0, .null, .int 0, .null, .int 0, .null, .null, .int 0, .null, .int 0, .null, .null, .null, .null, .null, .null, .null, .int 0, .null, .null, .null, .null, .null, .null, .null, .int 0, .null, .null, .null, .null, .null, .null, .long 0, .null, .null, .null, .null, .null]) (by decide +kernel : u_at kl_169 10 = some (.putfield 7, [12, 0, 3])) hW ha0 hf (Nat.le_of_ble_eq_true rfl) rfl rfl hX (fun h e2 hEe2 hW kq nq hX1 hf1 ha01 y => ?_)
  have hS : aS e2 = aS d + 400 := by rw [hEe2]; exact hS
  have k1 := (kq _).trans k1
  have n2 := (congrFun nq _).trans n2
  have W := W.trans y
  have hX := hX1
  have hf := hf1
  have ha0 := ha01
  have hB : ∀ b c, aK e2 b = (0, c, 0) → aK d b = (0, c, 0) := fun b c q => hB b c ((kq b).symm.trans q)
  refine en_segs [(13, .aload_n 0, []), (14, .sipush 2400, [])] (by decide +kernel) (y := (17, [some (.ref a0)], [.int 2400, .ref a0], h)) rfl ?_
  refine en_nzO (N := 2400) (by decide +kernel : u_at kl_169 17 = some (.newarray .int, [1])) hW (by decide +kernel) (by decide +kernel) rfl hX hS (fun h e3 hEe3 hW x k3 n4 hX1 hS1 => ?_)
  have hf := (x.w ha0).2.trans hf
  have ha0 := (x.w ha0).1
  have n2 := (x.2.2.2.2.2.2.2 _ _ k1).trans n2
  have k1 := x.z k1
  have W := W.trans (Adw.of x)
  have hX : aX e3 = aX d + 2 := hX1
  have hS : aS e3 = aS d + 2800 := hS1.trans (Nat.add_assoc _ _ _)
  have hB : ∀ b c, aK e3 b = (0, c, 0) → aK d b = (0, c, 0) := fun b c q => hB b c (bk_z (by rw [hEe3] at q; exact q))
  refine en_putA (fs' := [.ref (aX d + 0), .int 0, .int 0, .ref (aX d + 1), .null, .null, .null, .null, .int 0, .int 0, .int 0, .int 0, .int 0, .int 0, .int 0, .null, .int 0, .null, .int 0, .null, .null, .int 0, .null, .int 0, .null, .null, .null, .null, .null, .null, .null, .int 0, .null, .null, .null, .null, .null, .null, .null, .int 0, .null, .null, .null, .null, .null, .null, .long 0, .null, .null, .null, .null, .null]) (by decide +kernel : u_at kl_169 19 = some (.putfield 13, [12, 3, 3])) hW ha0 hf (Nat.le_of_ble_eq_true rfl) rfl rfl hX (fun h e4 hEe4 hW kq nq hX1 hf1 ha01 y => ?_)
  have hS : aS e4 = aS d + 2800 := by rw [hEe4]; exact hS
  have k1 := (kq _).trans k1
  have n2 := (congrFun nq _).trans n2
  have k3 := (kq _).trans k3
  have n4 := (congrFun nq _).trans n4
  have W := W.trans y
  have hX := hX1
  have hf := hf1
  have ha0 := ha01
  have hB : ∀ b c, aK e4 b = (0, c, 0) → aK d b = (0, c, 0) := fun b c q => hB b c ((kq b).symm.trans q)
  refine en_segs [(22, .aload_n 0, []), (23, .bipush 7, [])] (by decide +kernel) (y := (25, [some (.ref a0)], [.int 7, .ref a0], h)) rfl ?_
  refine en_nzO (N := 7) (by decide +kernel : u_at kl_169 25 = some (.newarray .int, [1])) hW (by decide +kernel) (by decide +kernel) rfl hX hS (fun h e5 hEe5 hW x k5 n6 hX1 hS1 => ?_)
  have hf := (x.w ha0).2.trans hf
  have ha0 := (x.w ha0).1
  have n2 := (x.2.2.2.2.2.2.2 _ _ k1).trans n2
  have k1 := x.z k1
  have n4 := (x.2.2.2.2.2.2.2 _ _ k3).trans n4
  have k3 := x.z k3
  have W := W.trans (Adw.of x)
  have hX : aX e5 = aX d + 3 := hX1
  have hS : aS e5 = aS d + 2807 := hS1.trans (Nat.add_assoc _ _ _)
  have hB : ∀ b c, aK e5 b = (0, c, 0) → aK d b = (0, c, 0) := fun b c q => hB b c (bk_z (by rw [hEe5] at q; exact q))
  refine en_putA (fs' := [.ref (aX d + 0), .int 0, .int 0, .ref (aX d + 1), .ref (aX d + 2), .null, .null, .null, .int 0, .int 0, .int 0, .int 0, .int 0, .int 0, .int 0, .null, .int 0, .null, .int 0, .null, .null, .int 0, .null, .int 0, .null, .null, .null, .null, .null, .null, .null, .int 0, .null, .null, .null, .null, .null, .null, .null, .int 0, .null, .null, .null, .null, .null, .null, .long 0, .null, .null, .null, .null, .null]) (by decide +kernel : u_at kl_169 27 = some (.putfield 17, [12, 4, 3])) hW ha0 hf (Nat.le_of_ble_eq_true rfl) rfl rfl hX (fun h e6 hEe6 hW kq nq hX1 hf1 ha01 y => ?_)
  have hS : aS e6 = aS d + 2807 := by rw [hEe6]; exact hS
  have k1 := (kq _).trans k1
  have n2 := (congrFun nq _).trans n2
  have k3 := (kq _).trans k3
  have n4 := (congrFun nq _).trans n4
  have k5 := (kq _).trans k5
  have n6 := (congrFun nq _).trans n6
  have W := W.trans y
  have hX := hX1
  have hf := hf1
  have ha0 := ha01
  have hB : ∀ b c, aK e6 b = (0, c, 0) → aK d b = (0, c, 0) := fun b c q => hB b c ((kq b).symm.trans q)
  refine en_segs [(30, .aload_n 0, []), (31, .sipush 288, [])] (by decide +kernel) (y := (34, [some (.ref a0)], [.int 288, .ref a0], h)) rfl ?_
  refine en_nzO (N := 288) (by decide +kernel : u_at kl_169 34 = some (.newarray .int, [1])) hW (by decide +kernel) (by decide +kernel) rfl hX hS (fun h e7 hEe7 hW x k7 n8 hX1 hS1 => ?_)
  have hf := (x.w ha0).2.trans hf
  have ha0 := (x.w ha0).1
  have n2 := (x.2.2.2.2.2.2.2 _ _ k1).trans n2
  have k1 := x.z k1
  have n4 := (x.2.2.2.2.2.2.2 _ _ k3).trans n4
  have k3 := x.z k3
  have n6 := (x.2.2.2.2.2.2.2 _ _ k5).trans n6
  have k5 := x.z k5
  have W := W.trans (Adw.of x)
  have hX : aX e7 = aX d + 4 := hX1
  have hS : aS e7 = aS d + 3095 := hS1.trans (Nat.add_assoc _ _ _)
  have hB : ∀ b c, aK e7 b = (0, c, 0) → aK d b = (0, c, 0) := fun b c q => hB b c (bk_z (by rw [hEe7] at q; exact q))
  refine en_putA (fs' := [.ref (aX d + 0), .int 0, .int 0, .ref (aX d + 1), .ref (aX d + 2), .ref (aX d + 3), .null, .null, .int 0, .int 0, .int 0, .int 0, .int 0, .int 0, .int 0, .null, .int 0, .null, .int 0, .null, .null, .int 0, .null, .int 0, .null, .null, .null, .null, .null, .null, .null, .int 0, .null, .null, .null, .null, .null, .null, .null, .int 0, .null, .null, .null, .null, .null, .null, .long 0, .null, .null, .null, .null, .null]) (by decide +kernel : u_at kl_169 36 = some (.putfield 20, [12, 5, 3])) hW ha0 hf (Nat.le_of_ble_eq_true rfl) rfl rfl hX (fun h e8 hEe8 hW kq nq hX1 hf1 ha01 y => ?_)
  have hS : aS e8 = aS d + 3095 := by rw [hEe8]; exact hS
  have k1 := (kq _).trans k1
  have n2 := (congrFun nq _).trans n2
  have k3 := (kq _).trans k3
  have n4 := (congrFun nq _).trans n4
  have k5 := (kq _).trans k5
  have n6 := (congrFun nq _).trans n6
  have k7 := (kq _).trans k7
  have n8 := (congrFun nq _).trans n8
  have W := W.trans y
  have hX := hX1
  have hf := hf1
  have ha0 := ha01
  have hB : ∀ b c, aK e8 b = (0, c, 0) → aK d b = (0, c, 0) := fun b c q => hB b c ((kq b).symm.trans q)
  refine en_segs [(39, .aload_n 0, []), (40, .bipush 6, [])] (by decide +kernel) (y := (42, [some (.ref a0)], [.int 6, .ref a0], h)) rfl ?_
  refine en_nzO (N := 6) (by decide +kernel : u_at kl_169 42 = some (.newarray .int, [1])) hW (by decide +kernel) (by decide +kernel) rfl hX hS (fun h e9 hEe9 hW x k9 n10 hX1 hS1 => ?_)
  have hf := (x.w ha0).2.trans hf
  have ha0 := (x.w ha0).1
  have n2 := (x.2.2.2.2.2.2.2 _ _ k1).trans n2
  have k1 := x.z k1
  have n4 := (x.2.2.2.2.2.2.2 _ _ k3).trans n4
  have k3 := x.z k3
  have n6 := (x.2.2.2.2.2.2.2 _ _ k5).trans n6
  have k5 := x.z k5
  have n8 := (x.2.2.2.2.2.2.2 _ _ k7).trans n8
  have k7 := x.z k7
  have W := W.trans (Adw.of x)
  have hX : aX e9 = aX d + 5 := hX1
  have hS : aS e9 = aS d + 3101 := hS1.trans (Nat.add_assoc _ _ _)
  have hB : ∀ b c, aK e9 b = (0, c, 0) → aK d b = (0, c, 0) := fun b c q => hB b c (bk_z (by rw [hEe9] at q; exact q))
  refine en_putA (fs' := [.ref (aX d + 0), .int 0, .int 0, .ref (aX d + 1), .ref (aX d + 2), .ref (aX d + 3), .ref (aX d + 4), .null, .int 0, .int 0, .int 0, .int 0, .int 0, .int 0, .int 0, .null, .int 0, .null, .int 0, .null, .null, .int 0, .null, .int 0, .null, .null, .null, .null, .null, .null, .null, .int 0, .null, .null, .null, .null, .null, .null, .null, .int 0, .null, .null, .null, .null, .null, .null, .long 0, .null, .null, .null, .null, .null]) (by decide +kernel : u_at kl_169 44 = some (.putfield 23, [12, 6, 3])) hW ha0 hf (Nat.le_of_ble_eq_true rfl) rfl rfl hX (fun h e10 hEe10 hW kq nq hX1 hf1 ha01 y => ?_)
  have hS : aS e10 = aS d + 3101 := by rw [hEe10]; exact hS
  have k1 := (kq _).trans k1
  have n2 := (congrFun nq _).trans n2
  have k3 := (kq _).trans k3
  have n4 := (congrFun nq _).trans n4
  have k5 := (kq _).trans k5
  have n6 := (congrFun nq _).trans n6
  have k7 := (kq _).trans k7
  have n8 := (congrFun nq _).trans n8
  have k9 := (kq _).trans k9
  have n10 := (congrFun nq _).trans n10
  have W := W.trans y
  have hX := hX1
  have hf := hf1
  have ha0 := ha01
  have hB : ∀ b c, aK e10 b = (0, c, 0) → aK d b = (0, c, 0) := fun b c q => hB b c ((kq b).symm.trans q)
  refine en_segs [(47, .aload_n 0, []), (48, .bipush 94, [])] (by decide +kernel) (y := (50, [some (.ref a0)], [.int 94, .ref a0], h)) rfl ?_
  refine en_nzO (N := 94) (by decide +kernel : u_at kl_169 50 = some (.newarray .int, [1])) hW (by decide +kernel) (by decide +kernel) rfl hX hS (fun h e11 hEe11 hW x k11 n12 hX1 hS1 => ?_)
  have hf := (x.w ha0).2.trans hf
  have ha0 := (x.w ha0).1
  have n2 := (x.2.2.2.2.2.2.2 _ _ k1).trans n2
  have k1 := x.z k1
  have n4 := (x.2.2.2.2.2.2.2 _ _ k3).trans n4
  have k3 := x.z k3
  have n6 := (x.2.2.2.2.2.2.2 _ _ k5).trans n6
  have k5 := x.z k5
  have n8 := (x.2.2.2.2.2.2.2 _ _ k7).trans n8
  have k7 := x.z k7
  have n10 := (x.2.2.2.2.2.2.2 _ _ k9).trans n10
  have k9 := x.z k9
  have W := W.trans (Adw.of x)
  have hX : aX e11 = aX d + 6 := hX1
  have hS : aS e11 = aS d + 3195 := hS1.trans (Nat.add_assoc _ _ _)
  have hB : ∀ b c, aK e11 b = (0, c, 0) → aK d b = (0, c, 0) := fun b c q => hB b c (bk_z (by rw [hEe11] at q; exact q))
  refine en_putA (fs' := [.ref (aX d + 0), .int 0, .int 0, .ref (aX d + 1), .ref (aX d + 2), .ref (aX d + 3), .ref (aX d + 4), .ref (aX d + 5), .int 0, .int 0, .int 0, .int 0, .int 0, .int 0, .int 0, .null, .int 0, .null, .int 0, .null, .null, .int 0, .null, .int 0, .null, .null, .null, .null, .null, .null, .null, .int 0, .null, .null, .null, .null, .null, .null, .null, .int 0, .null, .null, .null, .null, .null, .null, .long 0, .null, .null, .null, .null, .null]) (by decide +kernel : u_at kl_169 52 = some (.putfield 26, [12, 7, 3])) hW ha0 hf (Nat.le_of_ble_eq_true rfl) rfl rfl hX (fun h e12 hEe12 hW kq nq hX1 hf1 ha01 y => ?_)
  have hS : aS e12 = aS d + 3195 := by rw [hEe12]; exact hS
  have k1 := (kq _).trans k1
  have n2 := (congrFun nq _).trans n2
  have k3 := (kq _).trans k3
  have n4 := (congrFun nq _).trans n4
  have k5 := (kq _).trans k5
  have n6 := (congrFun nq _).trans n6
  have k7 := (kq _).trans k7
  have n8 := (congrFun nq _).trans n8
  have k9 := (kq _).trans k9
  have n10 := (congrFun nq _).trans n10
  have k11 := (kq _).trans k11
  have n12 := (congrFun nq _).trans n12
  have W := W.trans y
  have hX := hX1
  have hf := hf1
  have ha0 := ha01
  have hB : ∀ b c, aK e12 b = (0, c, 0) → aK d b = (0, c, 0) := fun b c q => hB b c ((kq b).symm.trans q)
  refine en_segs [(55, .aload_n 0, []), (56, .sipush 400, [])] (by decide +kernel) (y := (59, [some (.ref a0)], [.int 400, .ref a0], h)) rfl ?_
  refine en_nzO (N := 400) (by decide +kernel : u_at kl_169 59 = some (.newarray .int, [1])) hW (by decide +kernel) (by decide +kernel) rfl hX hS (fun h e13 hEe13 hW x k13 n14 hX1 hS1 => ?_)
  have hf := (x.w ha0).2.trans hf
  have ha0 := (x.w ha0).1
  have n2 := (x.2.2.2.2.2.2.2 _ _ k1).trans n2
  have k1 := x.z k1
  have n4 := (x.2.2.2.2.2.2.2 _ _ k3).trans n4
  have k3 := x.z k3
  have n6 := (x.2.2.2.2.2.2.2 _ _ k5).trans n6
  have k5 := x.z k5
  have n8 := (x.2.2.2.2.2.2.2 _ _ k7).trans n8
  have k7 := x.z k7
  have n10 := (x.2.2.2.2.2.2.2 _ _ k9).trans n10
  have k9 := x.z k9
  have n12 := (x.2.2.2.2.2.2.2 _ _ k11).trans n12
  have k11 := x.z k11
  have W := W.trans (Adw.of x)
  have hX : aX e13 = aX d + 7 := hX1
  have hS : aS e13 = aS d + 3595 := hS1.trans (Nat.add_assoc _ _ _)
  have hB : ∀ b c, aK e13 b = (0, c, 0) → aK d b = (0, c, 0) := fun b c q => hB b c (bk_z (by rw [hEe13] at q; exact q))
  refine en_putA (fs' := [.ref (aX d + 0), .int 0, .int 0, .ref (aX d + 1), .ref (aX d + 2), .ref (aX d + 3), .ref (aX d + 4), .ref (aX d + 5), .int 0, .int 0, .int 0, .int 0, .int 0, .int 0, .int 0, .ref (aX d + 6), .int 0, .null, .int 0, .null, .null, .int 0, .null, .int 0, .null, .null, .null, .null, .null, .null, .null, .int 0, .null, .null, .null, .null, .null, .null, .null, .int 0, .null, .null, .null, .null, .null, .null, .long 0, .null, .null, .null, .null, .null]) (by decide +kernel : u_at kl_169 61 = some (.putfield 29, [12, 15, 3])) hW ha0 hf (Nat.le_of_ble_eq_true rfl) rfl rfl hX (fun h e14 hEe14 hW kq nq hX1 hf1 ha01 y => ?_)
  have hS : aS e14 = aS d + 3595 := by rw [hEe14]; exact hS
  have k1 := (kq _).trans k1
  have n2 := (congrFun nq _).trans n2
  have k3 := (kq _).trans k3
  have n4 := (congrFun nq _).trans n4
  have k5 := (kq _).trans k5
  have n6 := (congrFun nq _).trans n6
  have k7 := (kq _).trans k7
  have n8 := (congrFun nq _).trans n8
  have k9 := (kq _).trans k9
  have n10 := (congrFun nq _).trans n10
  have k11 := (kq _).trans k11
  have n12 := (congrFun nq _).trans n12
  have k13 := (kq _).trans k13
  have n14 := (congrFun nq _).trans n14
  have W := W.trans y
  have hX := hX1
  have hf := hf1
  have ha0 := ha01
  have hB : ∀ b c, aK e14 b = (0, c, 0) → aK d b = (0, c, 0) := fun b c q => hB b c ((kq b).symm.trans q)
  refine en_segs [(64, .aload_n 0, []), (65, .bipush 64, [])] (by decide +kernel) (y := (67, [some (.ref a0)], [.int 64, .ref a0], h)) rfl ?_
  refine en_nzO (N := 64) (by decide +kernel : u_at kl_169 67 = some (.newarray .long, [2])) hW (by decide +kernel) (by decide +kernel) rfl hX hS (fun h e15 hEe15 hW x k15 n16 hX1 hS1 => ?_)
  have hf := (x.w ha0).2.trans hf
  have ha0 := (x.w ha0).1
  have n2 := (x.2.2.2.2.2.2.2 _ _ k1).trans n2
  have k1 := x.z k1
  have n4 := (x.2.2.2.2.2.2.2 _ _ k3).trans n4
  have k3 := x.z k3
  have n6 := (x.2.2.2.2.2.2.2 _ _ k5).trans n6
  have k5 := x.z k5
  have n8 := (x.2.2.2.2.2.2.2 _ _ k7).trans n8
  have k7 := x.z k7
  have n10 := (x.2.2.2.2.2.2.2 _ _ k9).trans n10
  have k9 := x.z k9
  have n12 := (x.2.2.2.2.2.2.2 _ _ k11).trans n12
  have k11 := x.z k11
  have n14 := (x.2.2.2.2.2.2.2 _ _ k13).trans n14
  have k13 := x.z k13
  have W := W.trans (Adw.of x)
  have hX : aX e15 = aX d + 8 := hX1
  have hS : aS e15 = aS d + 3659 := hS1.trans (Nat.add_assoc _ _ _)
  have hB : ∀ b c, aK e15 b = (0, c, 0) → aK d b = (0, c, 0) := fun b c q => hB b c (bk_z (by rw [hEe15] at q; exact q))
  refine en_putA (fs' := [.ref (aX d + 0), .int 0, .int 0, .ref (aX d + 1), .ref (aX d + 2), .ref (aX d + 3), .ref (aX d + 4), .ref (aX d + 5), .int 0, .int 0, .int 0, .int 0, .int 0, .int 0, .int 0, .ref (aX d + 6), .int 0, .ref (aX d + 7), .int 0, .null, .null, .int 0, .null, .int 0, .null, .null, .null, .null, .null, .null, .null, .int 0, .null, .null, .null, .null, .null, .null, .null, .int 0, .null, .null, .null, .null, .null, .null, .long 0, .null, .null, .null, .null, .null]) (by decide +kernel : u_at kl_169 69 = some (.putfield 32, [12, 17, 3])) hW ha0 hf (Nat.le_of_ble_eq_true rfl) rfl rfl hX (fun h e16 hEe16 hW kq nq hX1 hf1 ha01 y => ?_)
  have hS : aS e16 = aS d + 3659 := by rw [hEe16]; exact hS
  have k1 := (kq _).trans k1
  have n2 := (congrFun nq _).trans n2
  have k3 := (kq _).trans k3
  have n4 := (congrFun nq _).trans n4
  have k5 := (kq _).trans k5
  have n6 := (congrFun nq _).trans n6
  have k7 := (kq _).trans k7
  have n8 := (congrFun nq _).trans n8
  have k9 := (kq _).trans k9
  have n10 := (congrFun nq _).trans n10
  have k11 := (kq _).trans k11
  have n12 := (congrFun nq _).trans n12
  have k13 := (kq _).trans k13
  have n14 := (congrFun nq _).trans n14
  have k15 := (kq _).trans k15
  have n16 := (congrFun nq _).trans n16
  have W := W.trans y
  have hX := hX1
  have hf := hf1
  have ha0 := ha01
  have hB : ∀ b c, aK e16 b = (0, c, 0) → aK d b = (0, c, 0) := fun b c q => hB b c ((kq b).symm.trans q)
  refine en_segs [(72, .aload_n 0, []), (73, .bipush 12, [])] (by decide +kernel) (y := (75, [some (.ref a0)], [.int 12, .ref a0], h)) rfl ?_
  refine en_nzO (N := 12) (by decide +kernel : u_at kl_169 75 = some (.newarray .long, [2])) hW (by decide +kernel) (by decide +kernel) rfl hX hS (fun h e17 hEe17 hW x k17 n18 hX1 hS1 => ?_)
  have hf := (x.w ha0).2.trans hf
  have ha0 := (x.w ha0).1
  have n2 := (x.2.2.2.2.2.2.2 _ _ k1).trans n2
  have k1 := x.z k1
  have n4 := (x.2.2.2.2.2.2.2 _ _ k3).trans n4
  have k3 := x.z k3
  have n6 := (x.2.2.2.2.2.2.2 _ _ k5).trans n6
  have k5 := x.z k5
  have n8 := (x.2.2.2.2.2.2.2 _ _ k7).trans n8
  have k7 := x.z k7
  have n10 := (x.2.2.2.2.2.2.2 _ _ k9).trans n10
  have k9 := x.z k9
  have n12 := (x.2.2.2.2.2.2.2 _ _ k11).trans n12
  have k11 := x.z k11
  have n14 := (x.2.2.2.2.2.2.2 _ _ k13).trans n14
  have k13 := x.z k13
  have n16 := (x.2.2.2.2.2.2.2 _ _ k15).trans n16
  have k15 := x.z k15
  have W := W.trans (Adw.of x)
  have hX : aX e17 = aX d + 9 := hX1
  have hS : aS e17 = aS d + 3671 := hS1.trans (Nat.add_assoc _ _ _)
  have hB : ∀ b c, aK e17 b = (0, c, 0) → aK d b = (0, c, 0) := fun b c q => hB b c (bk_z (by rw [hEe17] at q; exact q))
  refine en_putA (fs' := [.ref (aX d + 0), .int 0, .int 0, .ref (aX d + 1), .ref (aX d + 2), .ref (aX d + 3), .ref (aX d + 4), .ref (aX d + 5), .int 0, .int 0, .int 0, .int 0, .int 0, .int 0, .int 0, .ref (aX d + 6), .int 0, .ref (aX d + 7), .int 0, .ref (aX d + 8), .null, .int 0, .null, .int 0, .null, .null, .null, .null, .null, .null, .null, .int 0, .null, .null, .null, .null, .null, .null, .null, .int 0, .null, .null, .null, .null, .null, .null, .long 0, .null, .null, .null, .null, .null]) (by decide +kernel : u_at kl_169 77 = some (.putfield 36, [12, 19, 3])) hW ha0 hf (Nat.le_of_ble_eq_true rfl) rfl rfl hX (fun h e18 hEe18 hW kq nq hX1 hf1 ha01 y => ?_)
  have hS : aS e18 = aS d + 3671 := by rw [hEe18]; exact hS
  have k1 := (kq _).trans k1
  have n2 := (congrFun nq _).trans n2
  have k3 := (kq _).trans k3
  have n4 := (congrFun nq _).trans n4
  have k5 := (kq _).trans k5
  have n6 := (congrFun nq _).trans n6
  have k7 := (kq _).trans k7
  have n8 := (congrFun nq _).trans n8
  have k9 := (kq _).trans k9
  have n10 := (congrFun nq _).trans n10
  have k11 := (kq _).trans k11
  have n12 := (congrFun nq _).trans n12
  have k13 := (kq _).trans k13
  have n14 := (congrFun nq _).trans n14
  have k15 := (kq _).trans k15
  have n16 := (congrFun nq _).trans n16
  have k17 := (kq _).trans k17
  have n18 := (congrFun nq _).trans n18
  have W := W.trans y
  have hX := hX1
  have hf := hf1
  have ha0 := ha01
  have hB : ∀ b c, aK e18 b = (0, c, 0) → aK d b = (0, c, 0) := fun b c q => hB b c ((kq b).symm.trans q)
  refine en_segs [(80, .aload_n 0, []), (81, .sipush 221, [])] (by decide +kernel) (y := (84, [some (.ref a0)], [.int 221, .ref a0], h)) rfl ?_
  refine en_nzO (N := 221) (by decide +kernel : u_at kl_169 84 = some (.newarray .int, [1])) hW (by decide +kernel) (by decide +kernel) rfl hX hS (fun h e19 hEe19 hW x k19 n20 hX1 hS1 => ?_)
  have hf := (x.w ha0).2.trans hf
  have ha0 := (x.w ha0).1
  have n2 := (x.2.2.2.2.2.2.2 _ _ k1).trans n2
  have k1 := x.z k1
  have n4 := (x.2.2.2.2.2.2.2 _ _ k3).trans n4
  have k3 := x.z k3
  have n6 := (x.2.2.2.2.2.2.2 _ _ k5).trans n6
  have k5 := x.z k5
  have n8 := (x.2.2.2.2.2.2.2 _ _ k7).trans n8
  have k7 := x.z k7
  have n10 := (x.2.2.2.2.2.2.2 _ _ k9).trans n10
  have k9 := x.z k9
  have n12 := (x.2.2.2.2.2.2.2 _ _ k11).trans n12
  have k11 := x.z k11
  have n14 := (x.2.2.2.2.2.2.2 _ _ k13).trans n14
  have k13 := x.z k13
  have n16 := (x.2.2.2.2.2.2.2 _ _ k15).trans n16
  have k15 := x.z k15
  have n18 := (x.2.2.2.2.2.2.2 _ _ k17).trans n18
  have k17 := x.z k17
  have W := W.trans (Adw.of x)
  have hX : aX e19 = aX d + 10 := hX1
  have hS : aS e19 = aS d + 3892 := hS1.trans (Nat.add_assoc _ _ _)
  have hB : ∀ b c, aK e19 b = (0, c, 0) → aK d b = (0, c, 0) := fun b c q => hB b c (bk_z (by rw [hEe19] at q; exact q))
  refine en_putA (fs' := [.ref (aX d + 0), .int 0, .int 0, .ref (aX d + 1), .ref (aX d + 2), .ref (aX d + 3), .ref (aX d + 4), .ref (aX d + 5), .int 0, .int 0, .int 0, .int 0, .int 0, .int 0, .int 0, .ref (aX d + 6), .int 0, .ref (aX d + 7), .int 0, .ref (aX d + 8), .ref (aX d + 9), .int 0, .null, .int 0, .null, .null, .null, .null, .null, .null, .null, .int 0, .null, .null, .null, .null, .null, .null, .null, .int 0, .null, .null, .null, .null, .null, .null, .long 0, .null, .null, .null, .null, .null]) (by decide +kernel : u_at kl_169 86 = some (.putfield 39, [12, 20, 3])) hW ha0 hf (Nat.le_of_ble_eq_true rfl) rfl rfl hX (fun h e20 hEe20 hW kq nq hX1 hf1 ha01 y => ?_)
  have hS : aS e20 = aS d + 3892 := by rw [hEe20]; exact hS
  have k1 := (kq _).trans k1
  have n2 := (congrFun nq _).trans n2
  have k3 := (kq _).trans k3
  have n4 := (congrFun nq _).trans n4
  have k5 := (kq _).trans k5
  have n6 := (congrFun nq _).trans n6
  have k7 := (kq _).trans k7
  have n8 := (congrFun nq _).trans n8
  have k9 := (kq _).trans k9
  have n10 := (congrFun nq _).trans n10
  have k11 := (kq _).trans k11
  have n12 := (congrFun nq _).trans n12
  have k13 := (kq _).trans k13
  have n14 := (congrFun nq _).trans n14
  have k15 := (kq _).trans k15
  have n16 := (congrFun nq _).trans n16
  have k17 := (kq _).trans k17
  have n18 := (congrFun nq _).trans n18
  have k19 := (kq _).trans k19
  have n20 := (congrFun nq _).trans n20
  have W := W.trans y
  have hX := hX1
  have hf := hf1
  have ha0 := ha01
  have hB : ∀ b c, aK e20 b = (0, c, 0) → aK d b = (0, c, 0) := fun b c q => hB b c ((kq b).symm.trans q)
  refine en_segs [(89, .aload_n 0, []), (90, .sipush 3680, [])] (by decide +kernel) (y := (93, [some (.ref a0)], [.int 3680, .ref a0], h)) rfl ?_
  refine en_nzO (N := 3680) (by decide +kernel : u_at kl_169 93 = some (.newarray .int, [1])) hW (by decide +kernel) (by decide +kernel) rfl hX hS (fun h e21 hEe21 hW x k21 n22 hX1 hS1 => ?_)
  have hf := (x.w ha0).2.trans hf
  have ha0 := (x.w ha0).1
  have n2 := (x.2.2.2.2.2.2.2 _ _ k1).trans n2
  have k1 := x.z k1
  have n4 := (x.2.2.2.2.2.2.2 _ _ k3).trans n4
  have k3 := x.z k3
  have n6 := (x.2.2.2.2.2.2.2 _ _ k5).trans n6
  have k5 := x.z k5
  have n8 := (x.2.2.2.2.2.2.2 _ _ k7).trans n8
  have k7 := x.z k7
  have n10 := (x.2.2.2.2.2.2.2 _ _ k9).trans n10
  have k9 := x.z k9
  have n12 := (x.2.2.2.2.2.2.2 _ _ k11).trans n12
  have k11 := x.z k11
  have n14 := (x.2.2.2.2.2.2.2 _ _ k13).trans n14
  have k13 := x.z k13
  have n16 := (x.2.2.2.2.2.2.2 _ _ k15).trans n16
  have k15 := x.z k15
  have n18 := (x.2.2.2.2.2.2.2 _ _ k17).trans n18
  have k17 := x.z k17
  have n20 := (x.2.2.2.2.2.2.2 _ _ k19).trans n20
  have k19 := x.z k19
  have W := W.trans (Adw.of x)
  have hX : aX e21 = aX d + 11 := hX1
  have hS : aS e21 = aS d + 7572 := hS1.trans (Nat.add_assoc _ _ _)
  have hB : ∀ b c, aK e21 b = (0, c, 0) → aK d b = (0, c, 0) := fun b c q => hB b c (bk_z (by rw [hEe21] at q; exact q))
  refine en_putA (fs' := [.ref (aX d + 0), .int 0, .int 0, .ref (aX d + 1), .ref (aX d + 2), .ref (aX d + 3), .ref (aX d + 4), .ref (aX d + 5), .int 0, .int 0, .int 0, .int 0, .int 0, .int 0, .int 0, .ref (aX d + 6), .int 0, .ref (aX d + 7), .int 0, .ref (aX d + 8), .ref (aX d + 9), .int 0, .ref (aX d + 10), .int 0, .null, .null, .null, .null, .null, .null, .null, .int 0, .null, .null, .null, .null, .null, .null, .null, .int 0, .null, .null, .null, .null, .null, .null, .long 0, .null, .null, .null, .null, .null]) (by decide +kernel : u_at kl_169 95 = some (.putfield 42, [12, 22, 3])) hW ha0 hf (Nat.le_of_ble_eq_true rfl) rfl rfl hX (fun h e22 hEe22 hW kq nq hX1 hf1 ha01 y => ?_)
  have hS : aS e22 = aS d + 7572 := by rw [hEe22]; exact hS
  have k1 := (kq _).trans k1
  have n2 := (congrFun nq _).trans n2
  have k3 := (kq _).trans k3
  have n4 := (congrFun nq _).trans n4
  have k5 := (kq _).trans k5
  have n6 := (congrFun nq _).trans n6
  have k7 := (kq _).trans k7
  have n8 := (congrFun nq _).trans n8
  have k9 := (kq _).trans k9
  have n10 := (congrFun nq _).trans n10
  have k11 := (kq _).trans k11
  have n12 := (congrFun nq _).trans n12
  have k13 := (kq _).trans k13
  have n14 := (congrFun nq _).trans n14
  have k15 := (kq _).trans k15
  have n16 := (congrFun nq _).trans n16
  have k17 := (kq _).trans k17
  have n18 := (congrFun nq _).trans n18
  have k19 := (kq _).trans k19
  have n20 := (congrFun nq _).trans n20
  have k21 := (kq _).trans k21
  have n22 := (congrFun nq _).trans n22
  have W := W.trans y
  have hX := hX1
  have hf := hf1
  have ha0 := ha01
  have hB : ∀ b c, aK e22 b = (0, c, 0) → aK d b = (0, c, 0) := fun b c q => hB b c ((kq b).symm.trans q)
  refine en_segs [(98, .aload_n 0, []), (99, .bipush 6, [])] (by decide +kernel) (y := (101, [some (.ref a0)], [.int 6, .ref a0], h)) rfl ?_
  refine en_nzO (N := 6) (by decide +kernel : u_at kl_169 101 = some (.newarray .int, [1])) hW (by decide +kernel) (by decide +kernel) rfl hX hS (fun h e23 hEe23 hW x k23 n24 hX1 hS1 => ?_)
  have hf := (x.w ha0).2.trans hf
  have ha0 := (x.w ha0).1
  have n2 := (x.2.2.2.2.2.2.2 _ _ k1).trans n2
  have k1 := x.z k1
  have n4 := (x.2.2.2.2.2.2.2 _ _ k3).trans n4
  have k3 := x.z k3
  have n6 := (x.2.2.2.2.2.2.2 _ _ k5).trans n6
  have k5 := x.z k5
  have n8 := (x.2.2.2.2.2.2.2 _ _ k7).trans n8
  have k7 := x.z k7
  have n10 := (x.2.2.2.2.2.2.2 _ _ k9).trans n10
  have k9 := x.z k9
  have n12 := (x.2.2.2.2.2.2.2 _ _ k11).trans n12
  have k11 := x.z k11
  have n14 := (x.2.2.2.2.2.2.2 _ _ k13).trans n14
  have k13 := x.z k13
  have n16 := (x.2.2.2.2.2.2.2 _ _ k15).trans n16
  have k15 := x.z k15
  have n18 := (x.2.2.2.2.2.2.2 _ _ k17).trans n18
  have k17 := x.z k17
  have n20 := (x.2.2.2.2.2.2.2 _ _ k19).trans n20
  have k19 := x.z k19
  have n22 := (x.2.2.2.2.2.2.2 _ _ k21).trans n22
  have k21 := x.z k21
  have W := W.trans (Adw.of x)
  have hX : aX e23 = aX d + 12 := hX1
  have hS : aS e23 = aS d + 7578 := hS1.trans (Nat.add_assoc _ _ _)
  have hB : ∀ b c, aK e23 b = (0, c, 0) → aK d b = (0, c, 0) := fun b c q => hB b c (bk_z (by rw [hEe23] at q; exact q))
  refine en_putA (fs' := [.ref (aX d + 0), .int 0, .int 0, .ref (aX d + 1), .ref (aX d + 2), .ref (aX d + 3), .ref (aX d + 4), .ref (aX d + 5), .int 0, .int 0, .int 0, .int 0, .int 0, .int 0, .int 0, .ref (aX d + 6), .int 0, .ref (aX d + 7), .int 0, .ref (aX d + 8), .ref (aX d + 9), .int 0, .ref (aX d + 10), .int 0, .ref (aX d + 11), .null, .null, .null, .null, .null, .null, .int 0, .null, .null, .null, .null, .null, .null, .null, .int 0, .null, .null, .null, .null, .null, .null, .long 0, .null, .null, .null, .null, .null]) (by decide +kernel : u_at kl_169 103 = some (.putfield 45, [12, 24, 3])) hW ha0 hf (Nat.le_of_ble_eq_true rfl) rfl rfl hX (fun h e24 hEe24 hW kq nq hX1 hf1 ha01 y => ?_)
  have hS : aS e24 = aS d + 7578 := by rw [hEe24]; exact hS
  have k1 := (kq _).trans k1
  have n2 := (congrFun nq _).trans n2
  have k3 := (kq _).trans k3
  have n4 := (congrFun nq _).trans n4
  have k5 := (kq _).trans k5
  have n6 := (congrFun nq _).trans n6
  have k7 := (kq _).trans k7
  have n8 := (congrFun nq _).trans n8
  have k9 := (kq _).trans k9
  have n10 := (congrFun nq _).trans n10
  have k11 := (kq _).trans k11
  have n12 := (congrFun nq _).trans n12
  have k13 := (kq _).trans k13
  have n14 := (congrFun nq _).trans n14
  have k15 := (kq _).trans k15
  have n16 := (congrFun nq _).trans n16
  have k17 := (kq _).trans k17
  have n18 := (congrFun nq _).trans n18
  have k19 := (kq _).trans k19
  have n20 := (congrFun nq _).trans n20
  have k21 := (kq _).trans k21
  have n22 := (congrFun nq _).trans n22
  have k23 := (kq _).trans k23
  have n24 := (congrFun nq _).trans n24
  have W := W.trans y
  have hX := hX1
  have hf := hf1
  have ha0 := ha01
  have hB : ∀ b c, aK e24 b = (0, c, 0) → aK d b = (0, c, 0) := fun b c q => hB b c ((kq b).symm.trans q)
  refine en_segs [(106, .aload_n 0, []), (107, .bipush 6, [])] (by decide +kernel) (y := (109, [some (.ref a0)], [.int 6, .ref a0], h)) rfl ?_
  refine en_nfO (N := 6) (by decide +kernel : u_at kl_169 109 = some (.newarray .int, [1])) hW (by decide +kernel) (by decide +kernel) hX hS (fun h e25 hEe25 hW x k25 n26 hX1 hS1 => ?_)
  have hf := (x.w ha0).2.trans hf
  have ha0 := (x.w ha0).1
  have n2 := (x.2.2.2.2.2.2.2 _ _ k1).trans n2
  have k1 := x.z k1
  have n4 := (x.2.2.2.2.2.2.2 _ _ k3).trans n4
  have k3 := x.z k3
  have n6 := (x.2.2.2.2.2.2.2 _ _ k5).trans n6
  have k5 := x.z k5
  have n8 := (x.2.2.2.2.2.2.2 _ _ k7).trans n8
  have k7 := x.z k7
  have n10 := (x.2.2.2.2.2.2.2 _ _ k9).trans n10
  have k9 := x.z k9
  have n12 := (x.2.2.2.2.2.2.2 _ _ k11).trans n12
  have k11 := x.z k11
  have n14 := (x.2.2.2.2.2.2.2 _ _ k13).trans n14
  have k13 := x.z k13
  have n16 := (x.2.2.2.2.2.2.2 _ _ k15).trans n16
  have k15 := x.z k15
  have n18 := (x.2.2.2.2.2.2.2 _ _ k17).trans n18
  have k17 := x.z k17
  have n20 := (x.2.2.2.2.2.2.2 _ _ k19).trans n20
  have k19 := x.z k19
  have n22 := (x.2.2.2.2.2.2.2 _ _ k21).trans n22
  have k21 := x.z k21
  have n24 := (x.2.2.2.2.2.2.2 _ _ k23).trans n24
  have k23 := x.z k23
  have W := W.trans (Adw.of x)
  have hX : aX e25 = aX d + 13 := hX1
  have hS : aS e25 = aS d + 7584 := hS1.trans (Nat.add_assoc _ _ _)
  have hB : ∀ b c, aK e25 b = (0, c, 0) → aK d b = (0, c, 0) := fun b c q => hB b c (bk_n (by rw [hEe25] at q; exact q))
  obtain ⟨y0, hy0⟩ : ∃ y, y = sA c13 0 (aX d + 12) (fun _ => 0) := ⟨_, rfl⟩
  have hW : HW (mkw c0 c1 c2 c3 c4 c5 c6 c7 c8 c9 c10 c11 c12 y0) e25 h := by rw [hy0]; exact hW
  refine en_segs [(111, .dup, []), (112, .iconst 0, []), (113, .sipush 7776, [])] (by decide +kernel) (y := (116, [some (.ref a0)], [.int 7776, .int 0, .ref (aX d + 12), .ref (aX d + 12), .ref a0], h)) rfl ?_
  obtain ⟨y1, hy1⟩ : ∃ y, y = sA y0 0 (aX d + 12) (upd (cA y0 0 (aX d + 12)) (0 : Int32).toNatClampNeg 7776) := ⟨_, rfl⟩
  refine en_fsO (y := y1) (by decide +kernel : u_at kl_169 116 = some (.iastore, [])) hW k25 n26 (by decide +kernel) hy1 (fun h hW => ?_)
  have hW : HW (mkw c0 c1 c2 c3 c4 c5 c6 c7 c8 c9 c10 c11 c12 y1) e25 h := hW
  refine en_segs [(117, .dup, []), (118, .iconst 1, []), (119, .sipush 1296, [])] (by decide +kernel) (y := (122, [some (.ref a0)], [.int 1296, .int 1, .ref (aX d + 12), .ref (aX d + 12), .ref a0], h)) rfl ?_
  obtain ⟨y2, hy2⟩ : ∃ y, y = sA y1 0 (aX d + 12) (upd (cA y1 0 (aX d + 12)) (1 : Int32).toNatClampNeg 1296) := ⟨_, rfl⟩
  refine en_fsO (y := y2) (by decide +kernel : u_at kl_169 122 = some (.iastore, [])) hW k25 n26 (by decide +kernel) hy2 (fun h hW => ?_)
  have hW : HW (mkw c0 c1 c2 c3 c4 c5 c6 c7 c8 c9 c10 c11 c12 y2) e25 h := hW
  refine en_segs [(123, .dup, []), (124, .iconst 2, []), (125, .sipush 216, [])] (by decide +kernel) (y := (128, [some (.ref a0)], [.int 216, .int 2, .ref (aX d + 12), .ref (aX d + 12), .ref a0], h)) rfl ?_
  obtain ⟨y3, hy3⟩ : ∃ y, y = sA y2 0 (aX d + 12) (upd (cA y2 0 (aX d + 12)) (2 : Int32).toNatClampNeg 216) := ⟨_, rfl⟩
  refine en_fsO (y := y3) (by decide +kernel : u_at kl_169 128 = some (.iastore, [])) hW k25 n26 (by decide +kernel) hy3 (fun h hW => ?_)
  have hW : HW (mkw c0 c1 c2 c3 c4 c5 c6 c7 c8 c9 c10 c11 c12 y3) e25 h := hW
  refine en_segs [(129, .dup, []), (130, .iconst 3, []), (131, .bipush 36, [])] (by decide +kernel) (y := (133, [some (.ref a0)], [.int 36, .int 3, .ref (aX d + 12), .ref (aX d + 12), .ref a0], h)) rfl ?_
  obtain ⟨y4, hy4⟩ : ∃ y, y = sA y3 0 (aX d + 12) (upd (cA y3 0 (aX d + 12)) (3 : Int32).toNatClampNeg 36) := ⟨_, rfl⟩
  refine en_fsO (y := y4) (by decide +kernel : u_at kl_169 133 = some (.iastore, [])) hW k25 n26 (by decide +kernel) hy4 (fun h hW => ?_)
  have hW : HW (mkw c0 c1 c2 c3 c4 c5 c6 c7 c8 c9 c10 c11 c12 y4) e25 h := hW
  refine en_segs [(134, .dup, []), (135, .iconst 4, []), (136, .bipush 6, [])] (by decide +kernel) (y := (138, [some (.ref a0)], [.int 6, .int 4, .ref (aX d + 12), .ref (aX d + 12), .ref a0], h)) rfl ?_
  obtain ⟨y5, hy5⟩ : ∃ y, y = sA y4 0 (aX d + 12) (upd (cA y4 0 (aX d + 12)) (4 : Int32).toNatClampNeg 6) := ⟨_, rfl⟩
  refine en_fsO (y := y5) (by decide +kernel : u_at kl_169 138 = some (.iastore, [])) hW k25 n26 (by decide +kernel) hy5 (fun h hW => ?_)
  have hW : HW (mkw c0 c1 c2 c3 c4 c5 c6 c7 c8 c9 c10 c11 c12 y5) e25 h := hW
  refine en_segs [(139, .dup, []), (140, .iconst 5, []), (141, .iconst 1, [])] (by decide +kernel) (y := (142, [some (.ref a0)], [.int 1, .int 5, .ref (aX d + 12), .ref (aX d + 12), .ref a0], h)) rfl ?_
  obtain ⟨y6, hy6⟩ : ∃ y, y = sA y5 0 (aX d + 12) (upd (cA y5 0 (aX d + 12)) (5 : Int32).toNatClampNeg 1) := ⟨_, rfl⟩
  refine en_fsO (y := y6) (by decide +kernel : u_at kl_169 142 = some (.iastore, [])) hW k25 n26 (by decide +kernel) hy6 (fun h hW => ?_)
  have hW : HW (mkw c0 c1 c2 c3 c4 c5 c6 c7 c8 c9 c10 c11 c12 y6) e25 h := hW
  refine en_putA (fs' := [.ref (aX d + 0), .int 0, .int 0, .ref (aX d + 1), .ref (aX d + 2), .ref (aX d + 3), .ref (aX d + 4), .ref (aX d + 5), .int 0, .int 0, .int 0, .int 0, .int 0, .int 0, .int 0, .ref (aX d + 6), .int 0, .ref (aX d + 7), .int 0, .ref (aX d + 8), .ref (aX d + 9), .int 0, .ref (aX d + 10), .int 0, .ref (aX d + 11), .ref (aX d + 12), .null, .null, .null, .null, .null, .int 0, .null, .null, .null, .null, .null, .null, .null, .int 0, .null, .null, .null, .null, .null, .null, .long 0, .null, .null, .null, .null, .null]) (by decide +kernel : u_at kl_169 143 = some (.putfield 48, [12, 25, 3])) hW ha0 hf (Nat.le_of_ble_eq_true rfl) rfl rfl hX (fun h e26 hEe26 hW kq nq hX1 hf1 ha01 y => ?_)
  have hS : aS e26 = aS d + 7584 := by rw [hEe26]; exact hS
  have k1 := (kq _).trans k1
  have n2 := (congrFun nq _).trans n2
  have k3 := (kq _).trans k3
  have n4 := (congrFun nq _).trans n4
  have k5 := (kq _).trans k5
  have n6 := (congrFun nq _).trans n6
  have k7 := (kq _).trans k7
  have n8 := (congrFun nq _).trans n8
  have k9 := (kq _).trans k9
  have n10 := (congrFun nq _).trans n10
  have k11 := (kq _).trans k11
  have n12 := (congrFun nq _).trans n12
  have k13 := (kq _).trans k13
  have n14 := (congrFun nq _).trans n14
  have k15 := (kq _).trans k15
  have n16 := (congrFun nq _).trans n16
  have k17 := (kq _).trans k17
  have n18 := (congrFun nq _).trans n18
  have k19 := (kq _).trans k19
  have n20 := (congrFun nq _).trans n20
  have k21 := (kq _).trans k21
  have n22 := (congrFun nq _).trans n22
  have k23 := (kq _).trans k23
  have n24 := (congrFun nq _).trans n24
  have W := W.trans y
  have hX := hX1
  have hf := hf1
  have ha0 := ha01
  have hB : ∀ b c, aK e26 b = (0, c, 0) → aK d b = (0, c, 0) := fun b c q => hB b c ((kq b).symm.trans q)
  have k25 := (kq _).trans k25
  have n26 := (congrFun nq _).trans n26
  refine en_segs [(146, .aload_n 0, []), (147, .ldc 51, [46656])] (by decide +kernel) (y := (149, [some (.ref a0)], [.int 46656, .ref a0], h)) rfl ?_
  refine en_nzO (N := 46656) (by decide +kernel : u_at kl_169 149 = some (.newarray .long, [2])) hW (by decide +kernel) (by decide +kernel) rfl hX hS (fun h e27 hEe27 hW x k27 n28 hX1 hS1 => ?_)
  have hf := (x.w ha0).2.trans hf
  have ha0 := (x.w ha0).1
  have n2 := (x.2.2.2.2.2.2.2 _ _ k1).trans n2
  have k1 := x.z k1
  have n4 := (x.2.2.2.2.2.2.2 _ _ k3).trans n4
  have k3 := x.z k3
  have n6 := (x.2.2.2.2.2.2.2 _ _ k5).trans n6
  have k5 := x.z k5
  have n8 := (x.2.2.2.2.2.2.2 _ _ k7).trans n8
  have k7 := x.z k7
  have n10 := (x.2.2.2.2.2.2.2 _ _ k9).trans n10
  have k9 := x.z k9
  have n12 := (x.2.2.2.2.2.2.2 _ _ k11).trans n12
  have k11 := x.z k11
  have n14 := (x.2.2.2.2.2.2.2 _ _ k13).trans n14
  have k13 := x.z k13
  have n16 := (x.2.2.2.2.2.2.2 _ _ k15).trans n16
  have k15 := x.z k15
  have n18 := (x.2.2.2.2.2.2.2 _ _ k17).trans n18
  have k17 := x.z k17
  have n20 := (x.2.2.2.2.2.2.2 _ _ k19).trans n20
  have k19 := x.z k19
  have n22 := (x.2.2.2.2.2.2.2 _ _ k21).trans n22
  have k21 := x.z k21
  have n24 := (x.2.2.2.2.2.2.2 _ _ k23).trans n24
  have k23 := x.z k23
  have W := W.trans (Adw.of x)
  have hX : aX e27 = aX d + 14 := hX1
  have hS : aS e27 = aS d + 54240 := hS1.trans (Nat.add_assoc _ _ _)
  have hB : ∀ b c, aK e27 b = (0, c, 0) → aK d b = (0, c, 0) := fun b c q => hB b c (bk_z (by rw [hEe27] at q; exact q))
  have n26 := (x.2.2.2.1 _ _ k25).trans n26
  have k25 := x.f k25
  refine en_putA (fs' := [.ref (aX d + 0), .int 0, .int 0, .ref (aX d + 1), .ref (aX d + 2), .ref (aX d + 3), .ref (aX d + 4), .ref (aX d + 5), .int 0, .int 0, .int 0, .int 0, .int 0, .int 0, .int 0, .ref (aX d + 6), .int 0, .ref (aX d + 7), .int 0, .ref (aX d + 8), .ref (aX d + 9), .int 0, .ref (aX d + 10), .int 0, .ref (aX d + 11), .ref (aX d + 12), .ref (aX d + 13), .null, .null, .null, .null, .int 0, .null, .null, .null, .null, .null, .null, .null, .int 0, .null, .null, .null, .null, .null, .null, .long 0, .null, .null, .null, .null, .null]) (by decide +kernel : u_at kl_169 151 = some (.putfield 52, [12, 26, 3])) hW ha0 hf (Nat.le_of_ble_eq_true rfl) rfl rfl hX (fun h e28 hEe28 hW kq nq hX1 hf1 ha01 y => ?_)
  have hS : aS e28 = aS d + 54240 := by rw [hEe28]; exact hS
  have k1 := (kq _).trans k1
  have n2 := (congrFun nq _).trans n2
  have k3 := (kq _).trans k3
  have n4 := (congrFun nq _).trans n4
  have k5 := (kq _).trans k5
  have n6 := (congrFun nq _).trans n6
  have k7 := (kq _).trans k7
  have n8 := (congrFun nq _).trans n8
  have k9 := (kq _).trans k9
  have n10 := (congrFun nq _).trans n10
  have k11 := (kq _).trans k11
  have n12 := (congrFun nq _).trans n12
  have k13 := (kq _).trans k13
  have n14 := (congrFun nq _).trans n14
  have k15 := (kq _).trans k15
  have n16 := (congrFun nq _).trans n16
  have k17 := (kq _).trans k17
  have n18 := (congrFun nq _).trans n18
  have k19 := (kq _).trans k19
  have n20 := (congrFun nq _).trans n20
  have k21 := (kq _).trans k21
  have n22 := (congrFun nq _).trans n22
  have k23 := (kq _).trans k23
  have n24 := (congrFun nq _).trans n24
  have k27 := (kq _).trans k27
  have n28 := (congrFun nq _).trans n28
  have W := W.trans y
  have hX := hX1
  have hf := hf1
  have ha0 := ha01
  have hB : ∀ b c, aK e28 b = (0, c, 0) → aK d b = (0, c, 0) := fun b c q => hB b c ((kq b).symm.trans q)
  have k25 := (kq _).trans k25
  have n26 := (congrFun nq _).trans n26
  refine en_segs [(154, .aload_n 0, []), (155, .ldc 51, [46656])] (by decide +kernel) (y := (157, [some (.ref a0)], [.int 46656, .ref a0], h)) rfl ?_
  refine en_nzO (N := 46656) (by decide +kernel : u_at kl_169 157 = some (.newarray .long, [2])) hW (by decide +kernel) (by decide +kernel) rfl hX hS (fun h e29 hEe29 hW x k29 n30 hX1 hS1 => ?_)
  have hf := (x.w ha0).2.trans hf
  have ha0 := (x.w ha0).1
  have n2 := (x.2.2.2.2.2.2.2 _ _ k1).trans n2
  have k1 := x.z k1
  have n4 := (x.2.2.2.2.2.2.2 _ _ k3).trans n4
  have k3 := x.z k3
  have n6 := (x.2.2.2.2.2.2.2 _ _ k5).trans n6
  have k5 := x.z k5
  have n8 := (x.2.2.2.2.2.2.2 _ _ k7).trans n8
  have k7 := x.z k7
  have n10 := (x.2.2.2.2.2.2.2 _ _ k9).trans n10
  have k9 := x.z k9
  have n12 := (x.2.2.2.2.2.2.2 _ _ k11).trans n12
  have k11 := x.z k11
  have n14 := (x.2.2.2.2.2.2.2 _ _ k13).trans n14
  have k13 := x.z k13
  have n16 := (x.2.2.2.2.2.2.2 _ _ k15).trans n16
  have k15 := x.z k15
  have n18 := (x.2.2.2.2.2.2.2 _ _ k17).trans n18
  have k17 := x.z k17
  have n20 := (x.2.2.2.2.2.2.2 _ _ k19).trans n20
  have k19 := x.z k19
  have n22 := (x.2.2.2.2.2.2.2 _ _ k21).trans n22
  have k21 := x.z k21
  have n24 := (x.2.2.2.2.2.2.2 _ _ k23).trans n24
  have k23 := x.z k23
  have n28 := (x.2.2.2.2.2.2.2 _ _ k27).trans n28
  have k27 := x.z k27
  have W := W.trans (Adw.of x)
  have hX : aX e29 = aX d + 15 := hX1
  have hS : aS e29 = aS d + 100896 := hS1.trans (Nat.add_assoc _ _ _)
  have hB : ∀ b c, aK e29 b = (0, c, 0) → aK d b = (0, c, 0) := fun b c q => hB b c (bk_z (by rw [hEe29] at q; exact q))
  have n26 := (x.2.2.2.1 _ _ k25).trans n26
  have k25 := x.f k25
  refine en_putA (fs' := [.ref (aX d + 0), .int 0, .int 0, .ref (aX d + 1), .ref (aX d + 2), .ref (aX d + 3), .ref (aX d + 4), .ref (aX d + 5), .int 0, .int 0, .int 0, .int 0, .int 0, .int 0, .int 0, .ref (aX d + 6), .int 0, .ref (aX d + 7), .int 0, .ref (aX d + 8), .ref (aX d + 9), .int 0, .ref (aX d + 10), .int 0, .ref (aX d + 11), .ref (aX d + 12), .ref (aX d + 13), .ref (aX d + 14), .null, .null, .null, .int 0, .null, .null, .null, .null, .null, .null, .null, .int 0, .null, .null, .null, .null, .null, .null, .long 0, .null, .null, .null, .null, .null]) (by decide +kernel : u_at kl_169 159 = some (.putfield 55, [12, 27, 3])) hW ha0 hf (Nat.le_of_ble_eq_true rfl) rfl rfl hX (fun h e30 hEe30 hW kq nq hX1 hf1 ha01 y => ?_)
  have hS : aS e30 = aS d + 100896 := by rw [hEe30]; exact hS
  have k1 := (kq _).trans k1
  have n2 := (congrFun nq _).trans n2
  have k3 := (kq _).trans k3
  have n4 := (congrFun nq _).trans n4
  have k5 := (kq _).trans k5
  have n6 := (congrFun nq _).trans n6
  have k7 := (kq _).trans k7
  have n8 := (congrFun nq _).trans n8
  have k9 := (kq _).trans k9
  have n10 := (congrFun nq _).trans n10
  have k11 := (kq _).trans k11
  have n12 := (congrFun nq _).trans n12
  have k13 := (kq _).trans k13
  have n14 := (congrFun nq _).trans n14
  have k15 := (kq _).trans k15
  have n16 := (congrFun nq _).trans n16
  have k17 := (kq _).trans k17
  have n18 := (congrFun nq _).trans n18
  have k19 := (kq _).trans k19
  have n20 := (congrFun nq _).trans n20
  have k21 := (kq _).trans k21
  have n22 := (congrFun nq _).trans n22
  have k23 := (kq _).trans k23
  have n24 := (congrFun nq _).trans n24
  have k27 := (kq _).trans k27
  have n28 := (congrFun nq _).trans n28
  have k29 := (kq _).trans k29
  have n30 := (congrFun nq _).trans n30
  have W := W.trans y
  have hX := hX1
  have hf := hf1
  have ha0 := ha01
  have hB : ∀ b c, aK e30 b = (0, c, 0) → aK d b = (0, c, 0) := fun b c q => hB b c ((kq b).symm.trans q)
  have k25 := (kq _).trans k25
  have n26 := (congrFun nq _).trans n26
  refine en_segs [(162, .aload_n 0, []), (163, .bipush 25, [])] (by decide +kernel) (y := (165, [some (.ref a0)], [.int 25, .ref a0], h)) rfl ?_
  refine en_nzO (N := 25) (by decide +kernel : u_at kl_169 165 = some (.newarray .int, [1])) hW (by decide +kernel) (by decide +kernel) rfl hX hS (fun h e31 hEe31 hW x k31 n32 hX1 hS1 => ?_)
  have hf := (x.w ha0).2.trans hf
  have ha0 := (x.w ha0).1
  have n2 := (x.2.2.2.2.2.2.2 _ _ k1).trans n2
  have k1 := x.z k1
  have n4 := (x.2.2.2.2.2.2.2 _ _ k3).trans n4
  have k3 := x.z k3
  have n6 := (x.2.2.2.2.2.2.2 _ _ k5).trans n6
  have k5 := x.z k5
  have n8 := (x.2.2.2.2.2.2.2 _ _ k7).trans n8
  have k7 := x.z k7
  have n10 := (x.2.2.2.2.2.2.2 _ _ k9).trans n10
  have k9 := x.z k9
  have n12 := (x.2.2.2.2.2.2.2 _ _ k11).trans n12
  have k11 := x.z k11
  have n14 := (x.2.2.2.2.2.2.2 _ _ k13).trans n14
  have k13 := x.z k13
  have n16 := (x.2.2.2.2.2.2.2 _ _ k15).trans n16
  have k15 := x.z k15
  have n18 := (x.2.2.2.2.2.2.2 _ _ k17).trans n18
  have k17 := x.z k17
  have n20 := (x.2.2.2.2.2.2.2 _ _ k19).trans n20
  have k19 := x.z k19
  have n22 := (x.2.2.2.2.2.2.2 _ _ k21).trans n22
  have k21 := x.z k21
  have n24 := (x.2.2.2.2.2.2.2 _ _ k23).trans n24
  have k23 := x.z k23
  have n28 := (x.2.2.2.2.2.2.2 _ _ k27).trans n28
  have k27 := x.z k27
  have n30 := (x.2.2.2.2.2.2.2 _ _ k29).trans n30
  have k29 := x.z k29
  have W := W.trans (Adw.of x)
  have hX : aX e31 = aX d + 16 := hX1
  have hS : aS e31 = aS d + 100921 := hS1.trans (Nat.add_assoc _ _ _)
  have hB : ∀ b c, aK e31 b = (0, c, 0) → aK d b = (0, c, 0) := fun b c q => hB b c (bk_z (by rw [hEe31] at q; exact q))
  have n26 := (x.2.2.2.1 _ _ k25).trans n26
  have k25 := x.f k25
  refine en_putA (fs' := [.ref (aX d + 0), .int 0, .int 0, .ref (aX d + 1), .ref (aX d + 2), .ref (aX d + 3), .ref (aX d + 4), .ref (aX d + 5), .int 0, .int 0, .int 0, .int 0, .int 0, .int 0, .int 0, .ref (aX d + 6), .int 0, .ref (aX d + 7), .int 0, .ref (aX d + 8), .ref (aX d + 9), .int 0, .ref (aX d + 10), .int 0, .ref (aX d + 11), .ref (aX d + 12), .ref (aX d + 13), .ref (aX d + 14), .ref (aX d + 15), .null, .null, .int 0, .null, .null, .null, .null, .null, .null, .null, .int 0, .null, .null, .null, .null, .null, .null, .long 0, .null, .null, .null, .null, .null]) (by decide +kernel : u_at kl_169 167 = some (.putfield 58, [12, 28, 3])) hW ha0 hf (Nat.le_of_ble_eq_true rfl) rfl rfl hX (fun h e32 hEe32 hW kq nq hX1 hf1 ha01 y => ?_)
  have hS : aS e32 = aS d + 100921 := by rw [hEe32]; exact hS
  have k1 := (kq _).trans k1
  have n2 := (congrFun nq _).trans n2
  have k3 := (kq _).trans k3
  have n4 := (congrFun nq _).trans n4
  have k5 := (kq _).trans k5
  have n6 := (congrFun nq _).trans n6
  have k7 := (kq _).trans k7
  have n8 := (congrFun nq _).trans n8
  have k9 := (kq _).trans k9
  have n10 := (congrFun nq _).trans n10
  have k11 := (kq _).trans k11
  have n12 := (congrFun nq _).trans n12
  have k13 := (kq _).trans k13
  have n14 := (congrFun nq _).trans n14
  have k15 := (kq _).trans k15
  have n16 := (congrFun nq _).trans n16
  have k17 := (kq _).trans k17
  have n18 := (congrFun nq _).trans n18
  have k19 := (kq _).trans k19
  have n20 := (congrFun nq _).trans n20
  have k21 := (kq _).trans k21
  have n22 := (congrFun nq _).trans n22
  have k23 := (kq _).trans k23
  have n24 := (congrFun nq _).trans n24
  have k27 := (kq _).trans k27
  have n28 := (congrFun nq _).trans n28
  have k29 := (kq _).trans k29
  have n30 := (congrFun nq _).trans n30
  have k31 := (kq _).trans k31
  have n32 := (congrFun nq _).trans n32
  have W := W.trans y
  have hX := hX1
  have hf := hf1
  have ha0 := ha01
  have hB : ∀ b c, aK e32 b = (0, c, 0) → aK d b = (0, c, 0) := fun b c q => hB b c ((kq b).symm.trans q)
  have k25 := (kq _).trans k25
  have n26 := (congrFun nq _).trans n26
  refine en_segs [(170, .aload_n 0, []), (171, .bipush 30, [])] (by decide +kernel) (y := (173, [some (.ref a0)], [.int 30, .ref a0], h)) rfl ?_
  refine en_nzO (N := 30) (by decide +kernel : u_at kl_169 173 = some (.newarray .int, [1])) hW (by decide +kernel) (by decide +kernel) rfl hX hS (fun h e33 hEe33 hW x k33 n34 hX1 hS1 => ?_)
  have hf := (x.w ha0).2.trans hf
  have ha0 := (x.w ha0).1
  have n2 := (x.2.2.2.2.2.2.2 _ _ k1).trans n2
  have k1 := x.z k1
  have n4 := (x.2.2.2.2.2.2.2 _ _ k3).trans n4
  have k3 := x.z k3
  have n6 := (x.2.2.2.2.2.2.2 _ _ k5).trans n6
  have k5 := x.z k5
  have n8 := (x.2.2.2.2.2.2.2 _ _ k7).trans n8
  have k7 := x.z k7
  have n10 := (x.2.2.2.2.2.2.2 _ _ k9).trans n10
  have k9 := x.z k9
  have n12 := (x.2.2.2.2.2.2.2 _ _ k11).trans n12
  have k11 := x.z k11
  have n14 := (x.2.2.2.2.2.2.2 _ _ k13).trans n14
  have k13 := x.z k13
  have n16 := (x.2.2.2.2.2.2.2 _ _ k15).trans n16
  have k15 := x.z k15
  have n18 := (x.2.2.2.2.2.2.2 _ _ k17).trans n18
  have k17 := x.z k17
  have n20 := (x.2.2.2.2.2.2.2 _ _ k19).trans n20
  have k19 := x.z k19
  have n22 := (x.2.2.2.2.2.2.2 _ _ k21).trans n22
  have k21 := x.z k21
  have n24 := (x.2.2.2.2.2.2.2 _ _ k23).trans n24
  have k23 := x.z k23
  have n28 := (x.2.2.2.2.2.2.2 _ _ k27).trans n28
  have k27 := x.z k27
  have n30 := (x.2.2.2.2.2.2.2 _ _ k29).trans n30
  have k29 := x.z k29
  have n32 := (x.2.2.2.2.2.2.2 _ _ k31).trans n32
  have k31 := x.z k31
  have W := W.trans (Adw.of x)
  have hX : aX e33 = aX d + 17 := hX1
  have hS : aS e33 = aS d + 100951 := hS1.trans (Nat.add_assoc _ _ _)
  have hB : ∀ b c, aK e33 b = (0, c, 0) → aK d b = (0, c, 0) := fun b c q => hB b c (bk_z (by rw [hEe33] at q; exact q))
  have n26 := (x.2.2.2.1 _ _ k25).trans n26
  have k25 := x.f k25
  refine en_putA (fs' := [.ref (aX d + 0), .int 0, .int 0, .ref (aX d + 1), .ref (aX d + 2), .ref (aX d + 3), .ref (aX d + 4), .ref (aX d + 5), .int 0, .int 0, .int 0, .int 0, .int 0, .int 0, .int 0, .ref (aX d + 6), .int 0, .ref (aX d + 7), .int 0, .ref (aX d + 8), .ref (aX d + 9), .int 0, .ref (aX d + 10), .int 0, .ref (aX d + 11), .ref (aX d + 12), .ref (aX d + 13), .ref (aX d + 14), .ref (aX d + 15), .ref (aX d + 16), .null, .int 0, .null, .null, .null, .null, .null, .null, .null, .int 0, .null, .null, .null, .null, .null, .null, .long 0, .null, .null, .null, .null, .null]) (by decide +kernel : u_at kl_169 175 = some (.putfield 61, [12, 29, 3])) hW ha0 hf (Nat.le_of_ble_eq_true rfl) rfl rfl hX (fun h e34 hEe34 hW kq nq hX1 hf1 ha01 y => ?_)
  have hS : aS e34 = aS d + 100951 := by rw [hEe34]; exact hS
  have k1 := (kq _).trans k1
  have n2 := (congrFun nq _).trans n2
  have k3 := (kq _).trans k3
  have n4 := (congrFun nq _).trans n4
  have k5 := (kq _).trans k5
  have n6 := (congrFun nq _).trans n6
  have k7 := (kq _).trans k7
  have n8 := (congrFun nq _).trans n8
  have k9 := (kq _).trans k9
  have n10 := (congrFun nq _).trans n10
  have k11 := (kq _).trans k11
  have n12 := (congrFun nq _).trans n12
  have k13 := (kq _).trans k13
  have n14 := (congrFun nq _).trans n14
  have k15 := (kq _).trans k15
  have n16 := (congrFun nq _).trans n16
  have k17 := (kq _).trans k17
  have n18 := (congrFun nq _).trans n18
  have k19 := (kq _).trans k19
  have n20 := (congrFun nq _).trans n20
  have k21 := (kq _).trans k21
  have n22 := (congrFun nq _).trans n22
  have k23 := (kq _).trans k23
  have n24 := (congrFun nq _).trans n24
  have k27 := (kq _).trans k27
  have n28 := (congrFun nq _).trans n28
  have k29 := (kq _).trans k29
  have n30 := (congrFun nq _).trans n30
  have k31 := (kq _).trans k31
  have n32 := (congrFun nq _).trans n32
  have k33 := (kq _).trans k33
  have n34 := (congrFun nq _).trans n34
  have W := W.trans y
  have hX := hX1
  have hf := hf1
  have ha0 := ha01
  have hB : ∀ b c, aK e34 b = (0, c, 0) → aK d b = (0, c, 0) := fun b c q => hB b c ((kq b).symm.trans q)
  have k25 := (kq _).trans k25
  have n26 := (congrFun nq _).trans n26
  refine en_segs [(178, .aload_n 0, []), (179, .bipush 30, [])] (by decide +kernel) (y := (181, [some (.ref a0)], [.int 30, .ref a0], h)) rfl ?_
  refine en_nzO (N := 30) (by decide +kernel : u_at kl_169 181 = some (.newarray .int, [1])) hW (by decide +kernel) (by decide +kernel) rfl hX hS (fun h e35 hEe35 hW x k35 n36 hX1 hS1 => ?_)
  have hf := (x.w ha0).2.trans hf
  have ha0 := (x.w ha0).1
  have n2 := (x.2.2.2.2.2.2.2 _ _ k1).trans n2
  have k1 := x.z k1
  have n4 := (x.2.2.2.2.2.2.2 _ _ k3).trans n4
  have k3 := x.z k3
  have n6 := (x.2.2.2.2.2.2.2 _ _ k5).trans n6
  have k5 := x.z k5
  have n8 := (x.2.2.2.2.2.2.2 _ _ k7).trans n8
  have k7 := x.z k7
  have n10 := (x.2.2.2.2.2.2.2 _ _ k9).trans n10
  have k9 := x.z k9
  have n12 := (x.2.2.2.2.2.2.2 _ _ k11).trans n12
  have k11 := x.z k11
  have n14 := (x.2.2.2.2.2.2.2 _ _ k13).trans n14
  have k13 := x.z k13
  have n16 := (x.2.2.2.2.2.2.2 _ _ k15).trans n16
  have k15 := x.z k15
  have n18 := (x.2.2.2.2.2.2.2 _ _ k17).trans n18
  have k17 := x.z k17
  have n20 := (x.2.2.2.2.2.2.2 _ _ k19).trans n20
  have k19 := x.z k19
  have n22 := (x.2.2.2.2.2.2.2 _ _ k21).trans n22
  have k21 := x.z k21
  have n24 := (x.2.2.2.2.2.2.2 _ _ k23).trans n24
  have k23 := x.z k23
  have n28 := (x.2.2.2.2.2.2.2 _ _ k27).trans n28
  have k27 := x.z k27
  have n30 := (x.2.2.2.2.2.2.2 _ _ k29).trans n30
  have k29 := x.z k29
  have n32 := (x.2.2.2.2.2.2.2 _ _ k31).trans n32
  have k31 := x.z k31
  have n34 := (x.2.2.2.2.2.2.2 _ _ k33).trans n34
  have k33 := x.z k33
  have W := W.trans (Adw.of x)
  have hX : aX e35 = aX d + 18 := hX1
  have hS : aS e35 = aS d + 100981 := hS1.trans (Nat.add_assoc _ _ _)
  have hB : ∀ b c, aK e35 b = (0, c, 0) → aK d b = (0, c, 0) := fun b c q => hB b c (bk_z (by rw [hEe35] at q; exact q))
  have n26 := (x.2.2.2.1 _ _ k25).trans n26
  have k25 := x.f k25
  refine en_putA (fs' := [.ref (aX d + 0), .int 0, .int 0, .ref (aX d + 1), .ref (aX d + 2), .ref (aX d + 3), .ref (aX d + 4), .ref (aX d + 5), .int 0, .int 0, .int 0, .int 0, .int 0, .int 0, .int 0, .ref (aX d + 6), .int 0, .ref (aX d + 7), .int 0, .ref (aX d + 8), .ref (aX d + 9), .int 0, .ref (aX d + 10), .int 0, .ref (aX d + 11), .ref (aX d + 12), .ref (aX d + 13), .ref (aX d + 14), .ref (aX d + 15), .ref (aX d + 16), .ref (aX d + 17), .int 0, .null, .null, .null, .null, .null, .null, .null, .int 0, .null, .null, .null, .null, .null, .null, .long 0, .null, .null, .null, .null, .null]) (by decide +kernel : u_at kl_169 183 = some (.putfield 64, [12, 30, 3])) hW ha0 hf (Nat.le_of_ble_eq_true rfl) rfl rfl hX (fun h e36 hEe36 hW kq nq hX1 hf1 ha01 y => ?_)
  have hS : aS e36 = aS d + 100981 := by rw [hEe36]; exact hS
  have k1 := (kq _).trans k1
  have n2 := (congrFun nq _).trans n2
  have k3 := (kq _).trans k3
  have n4 := (congrFun nq _).trans n4
  have k5 := (kq _).trans k5
  have n6 := (congrFun nq _).trans n6
  have k7 := (kq _).trans k7
  have n8 := (congrFun nq _).trans n8
  have k9 := (kq _).trans k9
  have n10 := (congrFun nq _).trans n10
  have k11 := (kq _).trans k11
  have n12 := (congrFun nq _).trans n12
  have k13 := (kq _).trans k13
  have n14 := (congrFun nq _).trans n14
  have k15 := (kq _).trans k15
  have n16 := (congrFun nq _).trans n16
  have k17 := (kq _).trans k17
  have n18 := (congrFun nq _).trans n18
  have k19 := (kq _).trans k19
  have n20 := (congrFun nq _).trans n20
  have k21 := (kq _).trans k21
  have n22 := (congrFun nq _).trans n22
  have k23 := (kq _).trans k23
  have n24 := (congrFun nq _).trans n24
  have k27 := (kq _).trans k27
  have n28 := (congrFun nq _).trans n28
  have k29 := (kq _).trans k29
  have n30 := (congrFun nq _).trans n30
  have k31 := (kq _).trans k31
  have n32 := (congrFun nq _).trans n32
  have k33 := (kq _).trans k33
  have n34 := (congrFun nq _).trans n34
  have k35 := (kq _).trans k35
  have n36 := (congrFun nq _).trans n36
  have W := W.trans y
  have hX := hX1
  have hf := hf1
  have ha0 := ha01
  have hB : ∀ b c, aK e36 b = (0, c, 0) → aK d b = (0, c, 0) := fun b c q => hB b c ((kq b).symm.trans q)
  have k25 := (kq _).trans k25
  have n26 := (congrFun nq _).trans n26
  refine en_segs [(186, .aload_n 0, []), (187, .bipush 6, [])] (by decide +kernel) (y := (189, [some (.ref a0)], [.int 6, .ref a0], h)) rfl ?_
  refine en_nzO (N := 6) (by decide +kernel : u_at kl_169 189 = some (.newarray .int, [1])) hW (by decide +kernel) (by decide +kernel) rfl hX hS (fun h e37 hEe37 hW x k37 n38 hX1 hS1 => ?_)
  have hf := (x.w ha0).2.trans hf
  have ha0 := (x.w ha0).1
  have n2 := (x.2.2.2.2.2.2.2 _ _ k1).trans n2
  have k1 := x.z k1
  have n4 := (x.2.2.2.2.2.2.2 _ _ k3).trans n4
  have k3 := x.z k3
  have n6 := (x.2.2.2.2.2.2.2 _ _ k5).trans n6
  have k5 := x.z k5
  have n8 := (x.2.2.2.2.2.2.2 _ _ k7).trans n8
  have k7 := x.z k7
  have n10 := (x.2.2.2.2.2.2.2 _ _ k9).trans n10
  have k9 := x.z k9
  have n12 := (x.2.2.2.2.2.2.2 _ _ k11).trans n12
  have k11 := x.z k11
  have n14 := (x.2.2.2.2.2.2.2 _ _ k13).trans n14
  have k13 := x.z k13
  have n16 := (x.2.2.2.2.2.2.2 _ _ k15).trans n16
  have k15 := x.z k15
  have n18 := (x.2.2.2.2.2.2.2 _ _ k17).trans n18
  have k17 := x.z k17
  have n20 := (x.2.2.2.2.2.2.2 _ _ k19).trans n20
  have k19 := x.z k19
  have n22 := (x.2.2.2.2.2.2.2 _ _ k21).trans n22
  have k21 := x.z k21
  have n24 := (x.2.2.2.2.2.2.2 _ _ k23).trans n24
  have k23 := x.z k23
  have n28 := (x.2.2.2.2.2.2.2 _ _ k27).trans n28
  have k27 := x.z k27
  have n30 := (x.2.2.2.2.2.2.2 _ _ k29).trans n30
  have k29 := x.z k29
  have n32 := (x.2.2.2.2.2.2.2 _ _ k31).trans n32
  have k31 := x.z k31
  have n34 := (x.2.2.2.2.2.2.2 _ _ k33).trans n34
  have k33 := x.z k33
  have n36 := (x.2.2.2.2.2.2.2 _ _ k35).trans n36
  have k35 := x.z k35
  have W := W.trans (Adw.of x)
  have hX : aX e37 = aX d + 19 := hX1
  have hS : aS e37 = aS d + 100987 := hS1.trans (Nat.add_assoc _ _ _)
  have hB : ∀ b c, aK e37 b = (0, c, 0) → aK d b = (0, c, 0) := fun b c q => hB b c (bk_z (by rw [hEe37] at q; exact q))
  have n26 := (x.2.2.2.1 _ _ k25).trans n26
  have k25 := x.f k25
  refine en_putA (fs' := [.ref (aX d + 0), .int 0, .int 0, .ref (aX d + 1), .ref (aX d + 2), .ref (aX d + 3), .ref (aX d + 4), .ref (aX d + 5), .int 0, .int 0, .int 0, .int 0, .int 0, .int 0, .int 0, .ref (aX d + 6), .int 0, .ref (aX d + 7), .int 0, .ref (aX d + 8), .ref (aX d + 9), .int 0, .ref (aX d + 10), .int 0, .ref (aX d + 11), .ref (aX d + 12), .ref (aX d + 13), .ref (aX d + 14), .ref (aX d + 15), .ref (aX d + 16), .ref (aX d + 17), .int 0, .ref (aX d + 18), .null, .null, .null, .null, .null, .null, .int 0, .null, .null, .null, .null, .null, .null, .long 0, .null, .null, .null, .null, .null]) (by decide +kernel : u_at kl_169 191 = some (.putfield 67, [12, 32, 3])) hW ha0 hf (Nat.le_of_ble_eq_true rfl) rfl rfl hX (fun h e38 hEe38 hW kq nq hX1 hf1 ha01 y => ?_)
  have hS : aS e38 = aS d + 100987 := by rw [hEe38]; exact hS
  have k1 := (kq _).trans k1
  have n2 := (congrFun nq _).trans n2
  have k3 := (kq _).trans k3
  have n4 := (congrFun nq _).trans n4
  have k5 := (kq _).trans k5
  have n6 := (congrFun nq _).trans n6
  have k7 := (kq _).trans k7
  have n8 := (congrFun nq _).trans n8
  have k9 := (kq _).trans k9
  have n10 := (congrFun nq _).trans n10
  have k11 := (kq _).trans k11
  have n12 := (congrFun nq _).trans n12
  have k13 := (kq _).trans k13
  have n14 := (congrFun nq _).trans n14
  have k15 := (kq _).trans k15
  have n16 := (congrFun nq _).trans n16
  have k17 := (kq _).trans k17
  have n18 := (congrFun nq _).trans n18
  have k19 := (kq _).trans k19
  have n20 := (congrFun nq _).trans n20
  have k21 := (kq _).trans k21
  have n22 := (congrFun nq _).trans n22
  have k23 := (kq _).trans k23
  have n24 := (congrFun nq _).trans n24
  have k27 := (kq _).trans k27
  have n28 := (congrFun nq _).trans n28
  have k29 := (kq _).trans k29
  have n30 := (congrFun nq _).trans n30
  have k31 := (kq _).trans k31
  have n32 := (congrFun nq _).trans n32
  have k33 := (kq _).trans k33
  have n34 := (congrFun nq _).trans n34
  have k35 := (kq _).trans k35
  have n36 := (congrFun nq _).trans n36
  have k37 := (kq _).trans k37
  have n38 := (congrFun nq _).trans n38
  have W := W.trans y
  have hX := hX1
  have hf := hf1
  have ha0 := ha01
  have hB : ∀ b c, aK e38 b = (0, c, 0) → aK d b = (0, c, 0) := fun b c q => hB b c ((kq b).symm.trans q)
  have k25 := (kq _).trans k25
  have n26 := (congrFun nq _).trans n26
  refine en_segs [(194, .aload_n 0, []), (195, .bipush 6, [])] (by decide +kernel) (y := (197, [some (.ref a0)], [.int 6, .ref a0], h)) rfl ?_
  refine en_nzO (N := 6) (by decide +kernel : u_at kl_169 197 = some (.newarray .int, [1])) hW (by decide +kernel) (by decide +kernel) rfl hX hS (fun h e39 hEe39 hW x k39 n40 hX1 hS1 => ?_)
  have hf := (x.w ha0).2.trans hf
  have ha0 := (x.w ha0).1
  have n2 := (x.2.2.2.2.2.2.2 _ _ k1).trans n2
  have k1 := x.z k1
  have n4 := (x.2.2.2.2.2.2.2 _ _ k3).trans n4
  have k3 := x.z k3
  have n6 := (x.2.2.2.2.2.2.2 _ _ k5).trans n6
  have k5 := x.z k5
  have n8 := (x.2.2.2.2.2.2.2 _ _ k7).trans n8
  have k7 := x.z k7
  have n10 := (x.2.2.2.2.2.2.2 _ _ k9).trans n10
  have k9 := x.z k9
  have n12 := (x.2.2.2.2.2.2.2 _ _ k11).trans n12
  have k11 := x.z k11
  have n14 := (x.2.2.2.2.2.2.2 _ _ k13).trans n14
  have k13 := x.z k13
  have n16 := (x.2.2.2.2.2.2.2 _ _ k15).trans n16
  have k15 := x.z k15
  have n18 := (x.2.2.2.2.2.2.2 _ _ k17).trans n18
  have k17 := x.z k17
  have n20 := (x.2.2.2.2.2.2.2 _ _ k19).trans n20
  have k19 := x.z k19
  have n22 := (x.2.2.2.2.2.2.2 _ _ k21).trans n22
  have k21 := x.z k21
  have n24 := (x.2.2.2.2.2.2.2 _ _ k23).trans n24
  have k23 := x.z k23
  have n28 := (x.2.2.2.2.2.2.2 _ _ k27).trans n28
  have k27 := x.z k27
  have n30 := (x.2.2.2.2.2.2.2 _ _ k29).trans n30
  have k29 := x.z k29
  have n32 := (x.2.2.2.2.2.2.2 _ _ k31).trans n32
  have k31 := x.z k31
  have n34 := (x.2.2.2.2.2.2.2 _ _ k33).trans n34
  have k33 := x.z k33
  have n36 := (x.2.2.2.2.2.2.2 _ _ k35).trans n36
  have k35 := x.z k35
  have n38 := (x.2.2.2.2.2.2.2 _ _ k37).trans n38
  have k37 := x.z k37
  have W := W.trans (Adw.of x)
  have hX : aX e39 = aX d + 20 := hX1
  have hS : aS e39 = aS d + 100993 := hS1.trans (Nat.add_assoc _ _ _)
  have hB : ∀ b c, aK e39 b = (0, c, 0) → aK d b = (0, c, 0) := fun b c q => hB b c (bk_z (by rw [hEe39] at q; exact q))
  have n26 := (x.2.2.2.1 _ _ k25).trans n26
  have k25 := x.f k25
  refine en_putA (fs' := [.ref (aX d + 0), .int 0, .int 0, .ref (aX d + 1), .ref (aX d + 2), .ref (aX d + 3), .ref (aX d + 4), .ref (aX d + 5), .int 0, .int 0, .int 0, .int 0, .int 0, .int 0, .int 0, .ref (aX d + 6), .int 0, .ref (aX d + 7), .int 0, .ref (aX d + 8), .ref (aX d + 9), .int 0, .ref (aX d + 10), .int 0, .ref (aX d + 11), .ref (aX d + 12), .ref (aX d + 13), .ref (aX d + 14), .ref (aX d + 15), .ref (aX d + 16), .ref (aX d + 17), .int 0, .ref (aX d + 18), .ref (aX d + 19), .null, .null, .null, .null, .null, .int 0, .null, .null, .null, .null, .null, .null, .long 0, .null, .null, .null, .null, .null]) (by decide +kernel : u_at kl_169 199 = some (.putfield 70, [12, 33, 3])) hW ha0 hf (Nat.le_of_ble_eq_true rfl) rfl rfl hX (fun h e40 hEe40 hW kq nq hX1 hf1 ha01 y => ?_)
  have hS : aS e40 = aS d + 100993 := by rw [hEe40]; exact hS
  have k1 := (kq _).trans k1
  have n2 := (congrFun nq _).trans n2
  have k3 := (kq _).trans k3
  have n4 := (congrFun nq _).trans n4
  have k5 := (kq _).trans k5
  have n6 := (congrFun nq _).trans n6
  have k7 := (kq _).trans k7
  have n8 := (congrFun nq _).trans n8
  have k9 := (kq _).trans k9
  have n10 := (congrFun nq _).trans n10
  have k11 := (kq _).trans k11
  have n12 := (congrFun nq _).trans n12
  have k13 := (kq _).trans k13
  have n14 := (congrFun nq _).trans n14
  have k15 := (kq _).trans k15
  have n16 := (congrFun nq _).trans n16
  have k17 := (kq _).trans k17
  have n18 := (congrFun nq _).trans n18
  have k19 := (kq _).trans k19
  have n20 := (congrFun nq _).trans n20
  have k21 := (kq _).trans k21
  have n22 := (congrFun nq _).trans n22
  have k23 := (kq _).trans k23
  have n24 := (congrFun nq _).trans n24
  have k27 := (kq _).trans k27
  have n28 := (congrFun nq _).trans n28
  have k29 := (kq _).trans k29
  have n30 := (congrFun nq _).trans n30
  have k31 := (kq _).trans k31
  have n32 := (congrFun nq _).trans n32
  have k33 := (kq _).trans k33
  have n34 := (congrFun nq _).trans n34
  have k35 := (kq _).trans k35
  have n36 := (congrFun nq _).trans n36
  have k37 := (kq _).trans k37
  have n38 := (congrFun nq _).trans n38
  have k39 := (kq _).trans k39
  have n40 := (congrFun nq _).trans n40
  have W := W.trans y
  have hX := hX1
  have hf := hf1
  have ha0 := ha01
  have hB : ∀ b c, aK e40 b = (0, c, 0) → aK d b = (0, c, 0) := fun b c q => hB b c ((kq b).symm.trans q)
  have k25 := (kq _).trans k25
  have n26 := (congrFun nq _).trans n26
  refine en_segs [(202, .aload_n 0, []), (203, .sipush 1001, [])] (by decide +kernel) (y := (206, [some (.ref a0)], [.int 1001, .ref a0], h)) rfl ?_
  refine en_nzO (N := 1001) (by decide +kernel : u_at kl_169 206 = some (.newarray .int, [1])) hW (by decide +kernel) (by decide +kernel) rfl hX hS (fun h e41 hEe41 hW x k41 n42 hX1 hS1 => ?_)
  have hf := (x.w ha0).2.trans hf
  have ha0 := (x.w ha0).1
  have n2 := (x.2.2.2.2.2.2.2 _ _ k1).trans n2
  have k1 := x.z k1
  have n4 := (x.2.2.2.2.2.2.2 _ _ k3).trans n4
  have k3 := x.z k3
  have n6 := (x.2.2.2.2.2.2.2 _ _ k5).trans n6
  have k5 := x.z k5
  have n8 := (x.2.2.2.2.2.2.2 _ _ k7).trans n8
  have k7 := x.z k7
  have n10 := (x.2.2.2.2.2.2.2 _ _ k9).trans n10
  have k9 := x.z k9
  have n12 := (x.2.2.2.2.2.2.2 _ _ k11).trans n12
  have k11 := x.z k11
  have n14 := (x.2.2.2.2.2.2.2 _ _ k13).trans n14
  have k13 := x.z k13
  have n16 := (x.2.2.2.2.2.2.2 _ _ k15).trans n16
  have k15 := x.z k15
  have n18 := (x.2.2.2.2.2.2.2 _ _ k17).trans n18
  have k17 := x.z k17
  have n20 := (x.2.2.2.2.2.2.2 _ _ k19).trans n20
  have k19 := x.z k19
  have n22 := (x.2.2.2.2.2.2.2 _ _ k21).trans n22
  have k21 := x.z k21
  have n24 := (x.2.2.2.2.2.2.2 _ _ k23).trans n24
  have k23 := x.z k23
  have n28 := (x.2.2.2.2.2.2.2 _ _ k27).trans n28
  have k27 := x.z k27
  have n30 := (x.2.2.2.2.2.2.2 _ _ k29).trans n30
  have k29 := x.z k29
  have n32 := (x.2.2.2.2.2.2.2 _ _ k31).trans n32
  have k31 := x.z k31
  have n34 := (x.2.2.2.2.2.2.2 _ _ k33).trans n34
  have k33 := x.z k33
  have n36 := (x.2.2.2.2.2.2.2 _ _ k35).trans n36
  have k35 := x.z k35
  have n38 := (x.2.2.2.2.2.2.2 _ _ k37).trans n38
  have k37 := x.z k37
  have n40 := (x.2.2.2.2.2.2.2 _ _ k39).trans n40
  have k39 := x.z k39
  have W := W.trans (Adw.of x)
  have hX : aX e41 = aX d + 21 := hX1
  have hS : aS e41 = aS d + 101994 := hS1.trans (Nat.add_assoc _ _ _)
  have hB : ∀ b c, aK e41 b = (0, c, 0) → aK d b = (0, c, 0) := fun b c q => hB b c (bk_z (by rw [hEe41] at q; exact q))
  have n26 := (x.2.2.2.1 _ _ k25).trans n26
  have k25 := x.f k25
  refine en_putA (fs' := [.ref (aX d + 0), .int 0, .int 0, .ref (aX d + 1), .ref (aX d + 2), .ref (aX d + 3), .ref (aX d + 4), .ref (aX d + 5), .int 0, .int 0, .int 0, .int 0, .int 0, .int 0, .int 0, .ref (aX d + 6), .int 0, .ref (aX d + 7), .int 0, .ref (aX d + 8), .ref (aX d + 9), .int 0, .ref (aX d + 10), .int 0, .ref (aX d + 11), .ref (aX d + 12), .ref (aX d + 13), .ref (aX d + 14), .ref (aX d + 15), .ref (aX d + 16), .ref (aX d + 17), .int 0, .ref (aX d + 18), .ref (aX d + 19), .ref (aX d + 20), .null, .null, .null, .null, .int 0, .null, .null, .null, .null, .null, .null, .long 0, .null, .null, .null, .null, .null]) (by decide +kernel : u_at kl_169 208 = some (.putfield 73, [12, 34, 3])) hW ha0 hf (Nat.le_of_ble_eq_true rfl) rfl rfl hX (fun h e42 hEe42 hW kq nq hX1 hf1 ha01 y => ?_)
  have hS : aS e42 = aS d + 101994 := by rw [hEe42]; exact hS
  have k1 := (kq _).trans k1
  have n2 := (congrFun nq _).trans n2
  have k3 := (kq _).trans k3
  have n4 := (congrFun nq _).trans n4
  have k5 := (kq _).trans k5
  have n6 := (congrFun nq _).trans n6
  have k7 := (kq _).trans k7
  have n8 := (congrFun nq _).trans n8
  have k9 := (kq _).trans k9
  have n10 := (congrFun nq _).trans n10
  have k11 := (kq _).trans k11
  have n12 := (congrFun nq _).trans n12
  have k13 := (kq _).trans k13
  have n14 := (congrFun nq _).trans n14
  have k15 := (kq _).trans k15
  have n16 := (congrFun nq _).trans n16
  have k17 := (kq _).trans k17
  have n18 := (congrFun nq _).trans n18
  have k19 := (kq _).trans k19
  have n20 := (congrFun nq _).trans n20
  have k21 := (kq _).trans k21
  have n22 := (congrFun nq _).trans n22
  have k23 := (kq _).trans k23
  have n24 := (congrFun nq _).trans n24
  have k27 := (kq _).trans k27
  have n28 := (congrFun nq _).trans n28
  have k29 := (kq _).trans k29
  have n30 := (congrFun nq _).trans n30
  have k31 := (kq _).trans k31
  have n32 := (congrFun nq _).trans n32
  have k33 := (kq _).trans k33
  have n34 := (congrFun nq _).trans n34
  have k35 := (kq _).trans k35
  have n36 := (congrFun nq _).trans n36
  have k37 := (kq _).trans k37
  have n38 := (congrFun nq _).trans n38
  have k39 := (kq _).trans k39
  have n40 := (congrFun nq _).trans n40
  have k41 := (kq _).trans k41
  have n42 := (congrFun nq _).trans n42
  have W := W.trans y
  have hX := hX1
  have hf := hf1
  have ha0 := ha01
  have hB : ∀ b c, aK e42 b = (0, c, 0) → aK d b = (0, c, 0) := fun b c q => hB b c ((kq b).symm.trans q)
  have k25 := (kq _).trans k25
  have n26 := (congrFun nq _).trans n26
  refine en_segs [(211, .aload_n 0, []), (212, .sipush 1001, [])] (by decide +kernel) (y := (215, [some (.ref a0)], [.int 1001, .ref a0], h)) rfl ?_
  refine en_nzO (N := 1001) (by decide +kernel : u_at kl_169 215 = some (.newarray .int, [1])) hW (by decide +kernel) (by decide +kernel) rfl hX hS (fun h e43 hEe43 hW x k43 n44 hX1 hS1 => ?_)
  have hf := (x.w ha0).2.trans hf
  have ha0 := (x.w ha0).1
  have n2 := (x.2.2.2.2.2.2.2 _ _ k1).trans n2
  have k1 := x.z k1
  have n4 := (x.2.2.2.2.2.2.2 _ _ k3).trans n4
  have k3 := x.z k3
  have n6 := (x.2.2.2.2.2.2.2 _ _ k5).trans n6
  have k5 := x.z k5
  have n8 := (x.2.2.2.2.2.2.2 _ _ k7).trans n8
  have k7 := x.z k7
  have n10 := (x.2.2.2.2.2.2.2 _ _ k9).trans n10
  have k9 := x.z k9
  have n12 := (x.2.2.2.2.2.2.2 _ _ k11).trans n12
  have k11 := x.z k11
  have n14 := (x.2.2.2.2.2.2.2 _ _ k13).trans n14
  have k13 := x.z k13
  have n16 := (x.2.2.2.2.2.2.2 _ _ k15).trans n16
  have k15 := x.z k15
  have n18 := (x.2.2.2.2.2.2.2 _ _ k17).trans n18
  have k17 := x.z k17
  have n20 := (x.2.2.2.2.2.2.2 _ _ k19).trans n20
  have k19 := x.z k19
  have n22 := (x.2.2.2.2.2.2.2 _ _ k21).trans n22
  have k21 := x.z k21
  have n24 := (x.2.2.2.2.2.2.2 _ _ k23).trans n24
  have k23 := x.z k23
  have n28 := (x.2.2.2.2.2.2.2 _ _ k27).trans n28
  have k27 := x.z k27
  have n30 := (x.2.2.2.2.2.2.2 _ _ k29).trans n30
  have k29 := x.z k29
  have n32 := (x.2.2.2.2.2.2.2 _ _ k31).trans n32
  have k31 := x.z k31
  have n34 := (x.2.2.2.2.2.2.2 _ _ k33).trans n34
  have k33 := x.z k33
  have n36 := (x.2.2.2.2.2.2.2 _ _ k35).trans n36
  have k35 := x.z k35
  have n38 := (x.2.2.2.2.2.2.2 _ _ k37).trans n38
  have k37 := x.z k37
  have n40 := (x.2.2.2.2.2.2.2 _ _ k39).trans n40
  have k39 := x.z k39
  have n42 := (x.2.2.2.2.2.2.2 _ _ k41).trans n42
  have k41 := x.z k41
  have W := W.trans (Adw.of x)
  have hX : aX e43 = aX d + 22 := hX1
  have hS : aS e43 = aS d + 102995 := hS1.trans (Nat.add_assoc _ _ _)
  have hB : ∀ b c, aK e43 b = (0, c, 0) → aK d b = (0, c, 0) := fun b c q => hB b c (bk_z (by rw [hEe43] at q; exact q))
  have n26 := (x.2.2.2.1 _ _ k25).trans n26
  have k25 := x.f k25
  refine en_putA (fs' := [.ref (aX d + 0), .int 0, .int 0, .ref (aX d + 1), .ref (aX d + 2), .ref (aX d + 3), .ref (aX d + 4), .ref (aX d + 5), .int 0, .int 0, .int 0, .int 0, .int 0, .int 0, .int 0, .ref (aX d + 6), .int 0, .ref (aX d + 7), .int 0, .ref (aX d + 8), .ref (aX d + 9), .int 0, .ref (aX d + 10), .int 0, .ref (aX d + 11), .ref (aX d + 12), .ref (aX d + 13), .ref (aX d + 14), .ref (aX d + 15), .ref (aX d + 16), .ref (aX d + 17), .int 0, .ref (aX d + 18), .ref (aX d + 19), .ref (aX d + 20), .ref (aX d + 21), .null, .null, .null, .int 0, .null, .null, .null, .null, .null, .null, .long 0, .null, .null, .null, .null, .null]) (by decide +kernel : u_at kl_169 217 = some (.putfield 76, [12, 35, 3])) hW ha0 hf (Nat.le_of_ble_eq_true rfl) rfl rfl hX (fun h e44 hEe44 hW kq nq hX1 hf1 ha01 y => ?_)
  have hS : aS e44 = aS d + 102995 := by rw [hEe44]; exact hS
  have k1 := (kq _).trans k1
  have n2 := (congrFun nq _).trans n2
  have k3 := (kq _).trans k3
  have n4 := (congrFun nq _).trans n4
  have k5 := (kq _).trans k5
  have n6 := (congrFun nq _).trans n6
  have k7 := (kq _).trans k7
  have n8 := (congrFun nq _).trans n8
  have k9 := (kq _).trans k9
  have n10 := (congrFun nq _).trans n10
  have k11 := (kq _).trans k11
  have n12 := (congrFun nq _).trans n12
  have k13 := (kq _).trans k13
  have n14 := (congrFun nq _).trans n14
  have k15 := (kq _).trans k15
  have n16 := (congrFun nq _).trans n16
  have k17 := (kq _).trans k17
  have n18 := (congrFun nq _).trans n18
  have k19 := (kq _).trans k19
  have n20 := (congrFun nq _).trans n20
  have k21 := (kq _).trans k21
  have n22 := (congrFun nq _).trans n22
  have k23 := (kq _).trans k23
  have n24 := (congrFun nq _).trans n24
  have k27 := (kq _).trans k27
  have n28 := (congrFun nq _).trans n28
  have k29 := (kq _).trans k29
  have n30 := (congrFun nq _).trans n30
  have k31 := (kq _).trans k31
  have n32 := (congrFun nq _).trans n32
  have k33 := (kq _).trans k33
  have n34 := (congrFun nq _).trans n34
  have k35 := (kq _).trans k35
  have n36 := (congrFun nq _).trans n36
  have k37 := (kq _).trans k37
  have n38 := (congrFun nq _).trans n38
  have k39 := (kq _).trans k39
  have n40 := (congrFun nq _).trans n40
  have k41 := (kq _).trans k41
  have n42 := (congrFun nq _).trans n42
  have k43 := (kq _).trans k43
  have n44 := (congrFun nq _).trans n44
  have W := W.trans y
  have hX := hX1
  have hf := hf1
  have ha0 := ha01
  have hB : ∀ b c, aK e44 b = (0, c, 0) → aK d b = (0, c, 0) := fun b c q => hB b c ((kq b).symm.trans q)
  have k25 := (kq _).trans k25
  have n26 := (congrFun nq _).trans n26
  refine en_segs [(220, .aload_n 0, []), (221, .sipush 1001, [])] (by decide +kernel) (y := (224, [some (.ref a0)], [.int 1001, .ref a0], h)) rfl ?_
  refine en_nzO (N := 1001) (by decide +kernel : u_at kl_169 224 = some (.newarray .int, [1])) hW (by decide +kernel) (by decide +kernel) rfl hX hS (fun h e45 hEe45 hW x k45 n46 hX1 hS1 => ?_)
  have hf := (x.w ha0).2.trans hf
  have ha0 := (x.w ha0).1
  have n2 := (x.2.2.2.2.2.2.2 _ _ k1).trans n2
  have k1 := x.z k1
  have n4 := (x.2.2.2.2.2.2.2 _ _ k3).trans n4
  have k3 := x.z k3
  have n6 := (x.2.2.2.2.2.2.2 _ _ k5).trans n6
  have k5 := x.z k5
  have n8 := (x.2.2.2.2.2.2.2 _ _ k7).trans n8
  have k7 := x.z k7
  have n10 := (x.2.2.2.2.2.2.2 _ _ k9).trans n10
  have k9 := x.z k9
  have n12 := (x.2.2.2.2.2.2.2 _ _ k11).trans n12
  have k11 := x.z k11
  have n14 := (x.2.2.2.2.2.2.2 _ _ k13).trans n14
  have k13 := x.z k13
  have n16 := (x.2.2.2.2.2.2.2 _ _ k15).trans n16
  have k15 := x.z k15
  have n18 := (x.2.2.2.2.2.2.2 _ _ k17).trans n18
  have k17 := x.z k17
  have n20 := (x.2.2.2.2.2.2.2 _ _ k19).trans n20
  have k19 := x.z k19
  have n22 := (x.2.2.2.2.2.2.2 _ _ k21).trans n22
  have k21 := x.z k21
  have n24 := (x.2.2.2.2.2.2.2 _ _ k23).trans n24
  have k23 := x.z k23
  have n28 := (x.2.2.2.2.2.2.2 _ _ k27).trans n28
  have k27 := x.z k27
  have n30 := (x.2.2.2.2.2.2.2 _ _ k29).trans n30
  have k29 := x.z k29
  have n32 := (x.2.2.2.2.2.2.2 _ _ k31).trans n32
  have k31 := x.z k31
  have n34 := (x.2.2.2.2.2.2.2 _ _ k33).trans n34
  have k33 := x.z k33
  have n36 := (x.2.2.2.2.2.2.2 _ _ k35).trans n36
  have k35 := x.z k35
  have n38 := (x.2.2.2.2.2.2.2 _ _ k37).trans n38
  have k37 := x.z k37
  have n40 := (x.2.2.2.2.2.2.2 _ _ k39).trans n40
  have k39 := x.z k39
  have n42 := (x.2.2.2.2.2.2.2 _ _ k41).trans n42
  have k41 := x.z k41
  have n44 := (x.2.2.2.2.2.2.2 _ _ k43).trans n44
  have k43 := x.z k43
  have W := W.trans (Adw.of x)
  have hX : aX e45 = aX d + 23 := hX1
  have hS : aS e45 = aS d + 103996 := hS1.trans (Nat.add_assoc _ _ _)
  have hB : ∀ b c, aK e45 b = (0, c, 0) → aK d b = (0, c, 0) := fun b c q => hB b c (bk_z (by rw [hEe45] at q; exact q))
  have n26 := (x.2.2.2.1 _ _ k25).trans n26
  have k25 := x.f k25
  refine en_putA (fs' := [.ref (aX d + 0), .int 0, .int 0, .ref (aX d + 1), .ref (aX d + 2), .ref (aX d + 3), .ref (aX d + 4), .ref (aX d + 5), .int 0, .int 0, .int 0, .int 0, .int 0, .int 0, .int 0, .ref (aX d + 6), .int 0, .ref (aX d + 7), .int 0, .ref (aX d + 8), .ref (aX d + 9), .int 0, .ref (aX d + 10), .int 0, .ref (aX d + 11), .ref (aX d + 12), .ref (aX d + 13), .ref (aX d + 14), .ref (aX d + 15), .ref (aX d + 16), .ref (aX d + 17), .int 0, .ref (aX d + 18), .ref (aX d + 19), .ref (aX d + 20), .ref (aX d + 21), .ref (aX d + 22), .null, .null, .int 0, .null, .null, .null, .null, .null, .null, .long 0, .null, .null, .null, .null, .null]) (by decide +kernel : u_at kl_169 226 = some (.putfield 79, [12, 36, 3])) hW ha0 hf (Nat.le_of_ble_eq_true rfl) rfl rfl hX (fun h e46 hEe46 hW kq nq hX1 hf1 ha01 y => ?_)
  have hS : aS e46 = aS d + 103996 := by rw [hEe46]; exact hS
  have k1 := (kq _).trans k1
  have n2 := (congrFun nq _).trans n2
  have k3 := (kq _).trans k3
  have n4 := (congrFun nq _).trans n4
  have k5 := (kq _).trans k5
  have n6 := (congrFun nq _).trans n6
  have k7 := (kq _).trans k7
  have n8 := (congrFun nq _).trans n8
  have k9 := (kq _).trans k9
  have n10 := (congrFun nq _).trans n10
  have k11 := (kq _).trans k11
  have n12 := (congrFun nq _).trans n12
  have k13 := (kq _).trans k13
  have n14 := (congrFun nq _).trans n14
  have k15 := (kq _).trans k15
  have n16 := (congrFun nq _).trans n16
  have k17 := (kq _).trans k17
  have n18 := (congrFun nq _).trans n18
  have k19 := (kq _).trans k19
  have n20 := (congrFun nq _).trans n20
  have k21 := (kq _).trans k21
  have n22 := (congrFun nq _).trans n22
  have k23 := (kq _).trans k23
  have n24 := (congrFun nq _).trans n24
  have k27 := (kq _).trans k27
  have n28 := (congrFun nq _).trans n28
  have k29 := (kq _).trans k29
  have n30 := (congrFun nq _).trans n30
  have k31 := (kq _).trans k31
  have n32 := (congrFun nq _).trans n32
  have k33 := (kq _).trans k33
  have n34 := (congrFun nq _).trans n34
  have k35 := (kq _).trans k35
  have n36 := (congrFun nq _).trans n36
  have k37 := (kq _).trans k37
  have n38 := (congrFun nq _).trans n38
  have k39 := (kq _).trans k39
  have n40 := (congrFun nq _).trans n40
  have k41 := (kq _).trans k41
  have n42 := (congrFun nq _).trans n42
  have k43 := (kq _).trans k43
  have n44 := (congrFun nq _).trans n44
  have k45 := (kq _).trans k45
  have n46 := (congrFun nq _).trans n46
  have W := W.trans y
  have hX := hX1
  have hf := hf1
  have ha0 := ha01
  have hB : ∀ b c, aK e46 b = (0, c, 0) → aK d b = (0, c, 0) := fun b c q => hB b c ((kq b).symm.trans q)
  have k25 := (kq _).trans k25
  have n26 := (congrFun nq _).trans n26
  refine en_segs [(229, .aload_n 0, []), (230, .ldc 51, [46656])] (by decide +kernel) (y := (232, [some (.ref a0)], [.int 46656, .ref a0], h)) rfl ?_
  refine en_nzO (N := 46656) (by decide +kernel : u_at kl_169 232 = some (.newarray .boolean, [3])) hW (by decide +kernel) (by decide +kernel) rfl hX hS (fun h e47 hEe47 hW x k47 n48 hX1 hS1 => ?_)
  have hf := (x.w ha0).2.trans hf
  have ha0 := (x.w ha0).1
  have n2 := (x.2.2.2.2.2.2.2 _ _ k1).trans n2
  have k1 := x.z k1
  have n4 := (x.2.2.2.2.2.2.2 _ _ k3).trans n4
  have k3 := x.z k3
  have n6 := (x.2.2.2.2.2.2.2 _ _ k5).trans n6
  have k5 := x.z k5
  have n8 := (x.2.2.2.2.2.2.2 _ _ k7).trans n8
  have k7 := x.z k7
  have n10 := (x.2.2.2.2.2.2.2 _ _ k9).trans n10
  have k9 := x.z k9
  have n12 := (x.2.2.2.2.2.2.2 _ _ k11).trans n12
  have k11 := x.z k11
  have n14 := (x.2.2.2.2.2.2.2 _ _ k13).trans n14
  have k13 := x.z k13
  have n16 := (x.2.2.2.2.2.2.2 _ _ k15).trans n16
  have k15 := x.z k15
  have n18 := (x.2.2.2.2.2.2.2 _ _ k17).trans n18
  have k17 := x.z k17
  have n20 := (x.2.2.2.2.2.2.2 _ _ k19).trans n20
  have k19 := x.z k19
  have n22 := (x.2.2.2.2.2.2.2 _ _ k21).trans n22
  have k21 := x.z k21
  have n24 := (x.2.2.2.2.2.2.2 _ _ k23).trans n24
  have k23 := x.z k23
  have n28 := (x.2.2.2.2.2.2.2 _ _ k27).trans n28
  have k27 := x.z k27
  have n30 := (x.2.2.2.2.2.2.2 _ _ k29).trans n30
  have k29 := x.z k29
  have n32 := (x.2.2.2.2.2.2.2 _ _ k31).trans n32
  have k31 := x.z k31
  have n34 := (x.2.2.2.2.2.2.2 _ _ k33).trans n34
  have k33 := x.z k33
  have n36 := (x.2.2.2.2.2.2.2 _ _ k35).trans n36
  have k35 := x.z k35
  have n38 := (x.2.2.2.2.2.2.2 _ _ k37).trans n38
  have k37 := x.z k37
  have n40 := (x.2.2.2.2.2.2.2 _ _ k39).trans n40
  have k39 := x.z k39
  have n42 := (x.2.2.2.2.2.2.2 _ _ k41).trans n42
  have k41 := x.z k41
  have n44 := (x.2.2.2.2.2.2.2 _ _ k43).trans n44
  have k43 := x.z k43
  have n46 := (x.2.2.2.2.2.2.2 _ _ k45).trans n46
  have k45 := x.z k45
  have W := W.trans (Adw.of x)
  have hX : aX e47 = aX d + 24 := hX1
  have hS : aS e47 = aS d + 150652 := hS1.trans (Nat.add_assoc _ _ _)
  have hB : ∀ b c, aK e47 b = (0, c, 0) → aK d b = (0, c, 0) := fun b c q => hB b c (bk_z (by rw [hEe47] at q; exact q))
  have n26 := (x.2.2.2.1 _ _ k25).trans n26
  have k25 := x.f k25
  refine en_putA (fs' := [.ref (aX d + 0), .int 0, .int 0, .ref (aX d + 1), .ref (aX d + 2), .ref (aX d + 3), .ref (aX d + 4), .ref (aX d + 5), .int 0, .int 0, .int 0, .int 0, .int 0, .int 0, .int 0, .ref (aX d + 6), .int 0, .ref (aX d + 7), .int 0, .ref (aX d + 8), .ref (aX d + 9), .int 0, .ref (aX d + 10), .int 0, .ref (aX d + 11), .ref (aX d + 12), .ref (aX d + 13), .ref (aX d + 14), .ref (aX d + 15), .ref (aX d + 16), .ref (aX d + 17), .int 0, .ref (aX d + 18), .ref (aX d + 19), .ref (aX d + 20), .ref (aX d + 21), .ref (aX d + 22), .ref (aX d + 23), .null, .int 0, .null, .null, .null, .null, .null, .null, .long 0, .null, .null, .null, .null, .null]) (by decide +kernel : u_at kl_169 234 = some (.putfield 82, [12, 37, 3])) hW ha0 hf (Nat.le_of_ble_eq_true rfl) rfl rfl hX (fun h e48 hEe48 hW kq nq hX1 hf1 ha01 y => ?_)
  have hS : aS e48 = aS d + 150652 := by rw [hEe48]; exact hS
  have k1 := (kq _).trans k1
  have n2 := (congrFun nq _).trans n2
  have k3 := (kq _).trans k3
  have n4 := (congrFun nq _).trans n4
  have k5 := (kq _).trans k5
  have n6 := (congrFun nq _).trans n6
  have k7 := (kq _).trans k7
  have n8 := (congrFun nq _).trans n8
  have k9 := (kq _).trans k9
  have n10 := (congrFun nq _).trans n10
  have k11 := (kq _).trans k11
  have n12 := (congrFun nq _).trans n12
  have k13 := (kq _).trans k13
  have n14 := (congrFun nq _).trans n14
  have k15 := (kq _).trans k15
  have n16 := (congrFun nq _).trans n16
  have k17 := (kq _).trans k17
  have n18 := (congrFun nq _).trans n18
  have k19 := (kq _).trans k19
  have n20 := (congrFun nq _).trans n20
  have k21 := (kq _).trans k21
  have n22 := (congrFun nq _).trans n22
  have k23 := (kq _).trans k23
  have n24 := (congrFun nq _).trans n24
  have k27 := (kq _).trans k27
  have n28 := (congrFun nq _).trans n28
  have k29 := (kq _).trans k29
  have n30 := (congrFun nq _).trans n30
  have k31 := (kq _).trans k31
  have n32 := (congrFun nq _).trans n32
  have k33 := (kq _).trans k33
  have n34 := (congrFun nq _).trans n34
  have k35 := (kq _).trans k35
  have n36 := (congrFun nq _).trans n36
  have k37 := (kq _).trans k37
  have n38 := (congrFun nq _).trans n38
  have k39 := (kq _).trans k39
  have n40 := (congrFun nq _).trans n40
  have k41 := (kq _).trans k41
  have n42 := (congrFun nq _).trans n42
  have k43 := (kq _).trans k43
  have n44 := (congrFun nq _).trans n44
  have k45 := (kq _).trans k45
  have n46 := (congrFun nq _).trans n46
  have k47 := (kq _).trans k47
  have n48 := (congrFun nq _).trans n48
  have W := W.trans y
  have hX := hX1
  have hf := hf1
  have ha0 := ha01
  have hB : ∀ b c, aK e48 b = (0, c, 0) → aK d b = (0, c, 0) := fun b c q => hB b c ((kq b).symm.trans q)
  have k25 := (kq _).trans k25
  have n26 := (congrFun nq _).trans n26
  refine en_segs [(237, .aload_n 0, []), (238, .sipush 420, [])] (by decide +kernel) (y := (241, [some (.ref a0)], [.int 420, .ref a0], h)) rfl ?_
  refine en_nzO (N := 420) (by decide +kernel : u_at kl_169 241 = some (.newarray .int, [1])) hW (by decide +kernel) (by decide +kernel) rfl hX hS (fun h e49 hEe49 hW x k49 n50 hX1 hS1 => ?_)
  have hf := (x.w ha0).2.trans hf
  have ha0 := (x.w ha0).1
  have n2 := (x.2.2.2.2.2.2.2 _ _ k1).trans n2
  have k1 := x.z k1
  have n4 := (x.2.2.2.2.2.2.2 _ _ k3).trans n4
  have k3 := x.z k3
  have n6 := (x.2.2.2.2.2.2.2 _ _ k5).trans n6
  have k5 := x.z k5
  have n8 := (x.2.2.2.2.2.2.2 _ _ k7).trans n8
  have k7 := x.z k7
  have n10 := (x.2.2.2.2.2.2.2 _ _ k9).trans n10
  have k9 := x.z k9
  have n12 := (x.2.2.2.2.2.2.2 _ _ k11).trans n12
  have k11 := x.z k11
  have n14 := (x.2.2.2.2.2.2.2 _ _ k13).trans n14
  have k13 := x.z k13
  have n16 := (x.2.2.2.2.2.2.2 _ _ k15).trans n16
  have k15 := x.z k15
  have n18 := (x.2.2.2.2.2.2.2 _ _ k17).trans n18
  have k17 := x.z k17
  have n20 := (x.2.2.2.2.2.2.2 _ _ k19).trans n20
  have k19 := x.z k19
  have n22 := (x.2.2.2.2.2.2.2 _ _ k21).trans n22
  have k21 := x.z k21
  have n24 := (x.2.2.2.2.2.2.2 _ _ k23).trans n24
  have k23 := x.z k23
  have n28 := (x.2.2.2.2.2.2.2 _ _ k27).trans n28
  have k27 := x.z k27
  have n30 := (x.2.2.2.2.2.2.2 _ _ k29).trans n30
  have k29 := x.z k29
  have n32 := (x.2.2.2.2.2.2.2 _ _ k31).trans n32
  have k31 := x.z k31
  have n34 := (x.2.2.2.2.2.2.2 _ _ k33).trans n34
  have k33 := x.z k33
  have n36 := (x.2.2.2.2.2.2.2 _ _ k35).trans n36
  have k35 := x.z k35
  have n38 := (x.2.2.2.2.2.2.2 _ _ k37).trans n38
  have k37 := x.z k37
  have n40 := (x.2.2.2.2.2.2.2 _ _ k39).trans n40
  have k39 := x.z k39
  have n42 := (x.2.2.2.2.2.2.2 _ _ k41).trans n42
  have k41 := x.z k41
  have n44 := (x.2.2.2.2.2.2.2 _ _ k43).trans n44
  have k43 := x.z k43
  have n46 := (x.2.2.2.2.2.2.2 _ _ k45).trans n46
  have k45 := x.z k45
  have n48 := (x.2.2.2.2.2.2.2 _ _ k47).trans n48
  have k47 := x.z k47
  have W := W.trans (Adw.of x)
  have hX : aX e49 = aX d + 25 := hX1
  have hS : aS e49 = aS d + 151072 := hS1.trans (Nat.add_assoc _ _ _)
  have hB : ∀ b c, aK e49 b = (0, c, 0) → aK d b = (0, c, 0) := fun b c q => hB b c (bk_z (by rw [hEe49] at q; exact q))
  have n26 := (x.2.2.2.1 _ _ k25).trans n26
  have k25 := x.f k25
  refine en_putA (fs' := [.ref (aX d + 0), .int 0, .int 0, .ref (aX d + 1), .ref (aX d + 2), .ref (aX d + 3), .ref (aX d + 4), .ref (aX d + 5), .int 0, .int 0, .int 0, .int 0, .int 0, .int 0, .int 0, .ref (aX d + 6), .int 0, .ref (aX d + 7), .int 0, .ref (aX d + 8), .ref (aX d + 9), .int 0, .ref (aX d + 10), .int 0, .ref (aX d + 11), .ref (aX d + 12), .ref (aX d + 13), .ref (aX d + 14), .ref (aX d + 15), .ref (aX d + 16), .ref (aX d + 17), .int 0, .ref (aX d + 18), .ref (aX d + 19), .ref (aX d + 20), .ref (aX d + 21), .ref (aX d + 22), .ref (aX d + 23), .ref (aX d + 24), .int 0, .null, .null, .null, .null, .null, .null, .long 0, .null, .null, .null, .null, .null]) (by decide +kernel : u_at kl_169 243 = some (.putfield 86, [12, 38, 3])) hW ha0 hf (Nat.le_of_ble_eq_true rfl) rfl rfl hX (fun h e50 hEe50 hW kq nq hX1 hf1 ha01 y => ?_)
  have hS : aS e50 = aS d + 151072 := by rw [hEe50]; exact hS
  have k1 := (kq _).trans k1
  have n2 := (congrFun nq _).trans n2
  have k3 := (kq _).trans k3
  have n4 := (congrFun nq _).trans n4
  have k5 := (kq _).trans k5
  have n6 := (congrFun nq _).trans n6
  have k7 := (kq _).trans k7
  have n8 := (congrFun nq _).trans n8
  have k9 := (kq _).trans k9
  have n10 := (congrFun nq _).trans n10
  have k11 := (kq _).trans k11
  have n12 := (congrFun nq _).trans n12
  have k13 := (kq _).trans k13
  have n14 := (congrFun nq _).trans n14
  have k15 := (kq _).trans k15
  have n16 := (congrFun nq _).trans n16
  have k17 := (kq _).trans k17
  have n18 := (congrFun nq _).trans n18
  have k19 := (kq _).trans k19
  have n20 := (congrFun nq _).trans n20
  have k21 := (kq _).trans k21
  have n22 := (congrFun nq _).trans n22
  have k23 := (kq _).trans k23
  have n24 := (congrFun nq _).trans n24
  have k27 := (kq _).trans k27
  have n28 := (congrFun nq _).trans n28
  have k29 := (kq _).trans k29
  have n30 := (congrFun nq _).trans n30
  have k31 := (kq _).trans k31
  have n32 := (congrFun nq _).trans n32
  have k33 := (kq _).trans k33
  have n34 := (congrFun nq _).trans n34
  have k35 := (kq _).trans k35
  have n36 := (congrFun nq _).trans n36
  have k37 := (kq _).trans k37
  have n38 := (congrFun nq _).trans n38
  have k39 := (kq _).trans k39
  have n40 := (congrFun nq _).trans n40
  have k41 := (kq _).trans k41
  have n42 := (congrFun nq _).trans n42
  have k43 := (kq _).trans k43
  have n44 := (congrFun nq _).trans n44
  have k45 := (kq _).trans k45
  have n46 := (congrFun nq _).trans n46
  have k47 := (kq _).trans k47
  have n48 := (congrFun nq _).trans n48
  have k49 := (kq _).trans k49
  have n50 := (congrFun nq _).trans n50
  have W := W.trans y
  have hX := hX1
  have hf := hf1
  have ha0 := ha01
  have hB : ∀ b c, aK e50 b = (0, c, 0) → aK d b = (0, c, 0) := fun b c q => hB b c ((kq b).symm.trans q)
  have k25 := (kq _).trans k25
  have n26 := (congrFun nq _).trans n26
  refine en_segs [(246, .aload_n 0, []), (247, .ldc 51, [46656])] (by decide +kernel) (y := (249, [some (.ref a0)], [.int 46656, .ref a0], h)) rfl ?_
  refine en_nzO (N := 46656) (by decide +kernel : u_at kl_169 249 = some (.newarray .int, [1])) hW (by decide +kernel) (by decide +kernel) rfl hX hS (fun h e51 hEe51 hW x k51 n52 hX1 hS1 => ?_)
  have hf := (x.w ha0).2.trans hf
  have ha0 := (x.w ha0).1
  have n2 := (x.2.2.2.2.2.2.2 _ _ k1).trans n2
  have k1 := x.z k1
  have n4 := (x.2.2.2.2.2.2.2 _ _ k3).trans n4
  have k3 := x.z k3
  have n6 := (x.2.2.2.2.2.2.2 _ _ k5).trans n6
  have k5 := x.z k5
  have n8 := (x.2.2.2.2.2.2.2 _ _ k7).trans n8
  have k7 := x.z k7
  have n10 := (x.2.2.2.2.2.2.2 _ _ k9).trans n10
  have k9 := x.z k9
  have n12 := (x.2.2.2.2.2.2.2 _ _ k11).trans n12
  have k11 := x.z k11
  have n14 := (x.2.2.2.2.2.2.2 _ _ k13).trans n14
  have k13 := x.z k13
  have n16 := (x.2.2.2.2.2.2.2 _ _ k15).trans n16
  have k15 := x.z k15
  have n18 := (x.2.2.2.2.2.2.2 _ _ k17).trans n18
  have k17 := x.z k17
  have n20 := (x.2.2.2.2.2.2.2 _ _ k19).trans n20
  have k19 := x.z k19
  have n22 := (x.2.2.2.2.2.2.2 _ _ k21).trans n22
  have k21 := x.z k21
  have n24 := (x.2.2.2.2.2.2.2 _ _ k23).trans n24
  have k23 := x.z k23
  have n28 := (x.2.2.2.2.2.2.2 _ _ k27).trans n28
  have k27 := x.z k27
  have n30 := (x.2.2.2.2.2.2.2 _ _ k29).trans n30
  have k29 := x.z k29
  have n32 := (x.2.2.2.2.2.2.2 _ _ k31).trans n32
  have k31 := x.z k31
  have n34 := (x.2.2.2.2.2.2.2 _ _ k33).trans n34
  have k33 := x.z k33
  have n36 := (x.2.2.2.2.2.2.2 _ _ k35).trans n36
  have k35 := x.z k35
  have n38 := (x.2.2.2.2.2.2.2 _ _ k37).trans n38
  have k37 := x.z k37
  have n40 := (x.2.2.2.2.2.2.2 _ _ k39).trans n40
  have k39 := x.z k39
  have n42 := (x.2.2.2.2.2.2.2 _ _ k41).trans n42
  have k41 := x.z k41
  have n44 := (x.2.2.2.2.2.2.2 _ _ k43).trans n44
  have k43 := x.z k43
  have n46 := (x.2.2.2.2.2.2.2 _ _ k45).trans n46
  have k45 := x.z k45
  have n48 := (x.2.2.2.2.2.2.2 _ _ k47).trans n48
  have k47 := x.z k47
  have n50 := (x.2.2.2.2.2.2.2 _ _ k49).trans n50
  have k49 := x.z k49
  have W := W.trans (Adw.of x)
  have hX : aX e51 = aX d + 26 := hX1
  have hS : aS e51 = aS d + 197728 := hS1.trans (Nat.add_assoc _ _ _)
  have hB : ∀ b c, aK e51 b = (0, c, 0) → aK d b = (0, c, 0) := fun b c q => hB b c (bk_z (by rw [hEe51] at q; exact q))
  have n26 := (x.2.2.2.1 _ _ k25).trans n26
  have k25 := x.f k25
  refine en_putA (fs' := [.ref (aX d + 0), .int 0, .int 0, .ref (aX d + 1), .ref (aX d + 2), .ref (aX d + 3), .ref (aX d + 4), .ref (aX d + 5), .int 0, .int 0, .int 0, .int 0, .int 0, .int 0, .int 0, .ref (aX d + 6), .int 0, .ref (aX d + 7), .int 0, .ref (aX d + 8), .ref (aX d + 9), .int 0, .ref (aX d + 10), .int 0, .ref (aX d + 11), .ref (aX d + 12), .ref (aX d + 13), .ref (aX d + 14), .ref (aX d + 15), .ref (aX d + 16), .ref (aX d + 17), .int 0, .ref (aX d + 18), .ref (aX d + 19), .ref (aX d + 20), .ref (aX d + 21), .ref (aX d + 22), .ref (aX d + 23), .ref (aX d + 24), .int 0, .ref (aX d + 25), .null, .null, .null, .null, .null, .long 0, .null, .null, .null, .null, .null]) (by decide +kernel : u_at kl_169 251 = some (.putfield 89, [12, 40, 3])) hW ha0 hf (Nat.le_of_ble_eq_true rfl) rfl rfl hX (fun h e52 hEe52 hW kq nq hX1 hf1 ha01 y => ?_)
  have hS : aS e52 = aS d + 197728 := by rw [hEe52]; exact hS
  have k1 := (kq _).trans k1
  have n2 := (congrFun nq _).trans n2
  have k3 := (kq _).trans k3
  have n4 := (congrFun nq _).trans n4
  have k5 := (kq _).trans k5
  have n6 := (congrFun nq _).trans n6
  have k7 := (kq _).trans k7
  have n8 := (congrFun nq _).trans n8
  have k9 := (kq _).trans k9
  have n10 := (congrFun nq _).trans n10
  have k11 := (kq _).trans k11
  have n12 := (congrFun nq _).trans n12
  have k13 := (kq _).trans k13
  have n14 := (congrFun nq _).trans n14
  have k15 := (kq _).trans k15
  have n16 := (congrFun nq _).trans n16
  have k17 := (kq _).trans k17
  have n18 := (congrFun nq _).trans n18
  have k19 := (kq _).trans k19
  have n20 := (congrFun nq _).trans n20
  have k21 := (kq _).trans k21
  have n22 := (congrFun nq _).trans n22
  have k23 := (kq _).trans k23
  have n24 := (congrFun nq _).trans n24
  have k27 := (kq _).trans k27
  have n28 := (congrFun nq _).trans n28
  have k29 := (kq _).trans k29
  have n30 := (congrFun nq _).trans n30
  have k31 := (kq _).trans k31
  have n32 := (congrFun nq _).trans n32
  have k33 := (kq _).trans k33
  have n34 := (congrFun nq _).trans n34
  have k35 := (kq _).trans k35
  have n36 := (congrFun nq _).trans n36
  have k37 := (kq _).trans k37
  have n38 := (congrFun nq _).trans n38
  have k39 := (kq _).trans k39
  have n40 := (congrFun nq _).trans n40
  have k41 := (kq _).trans k41
  have n42 := (congrFun nq _).trans n42
  have k43 := (kq _).trans k43
  have n44 := (congrFun nq _).trans n44
  have k45 := (kq _).trans k45
  have n46 := (congrFun nq _).trans n46
  have k47 := (kq _).trans k47
  have n48 := (congrFun nq _).trans n48
  have k49 := (kq _).trans k49
  have n50 := (congrFun nq _).trans n50
  have k51 := (kq _).trans k51
  have n52 := (congrFun nq _).trans n52
  have W := W.trans y
  have hX := hX1
  have hf := hf1
  have ha0 := ha01
  have hB : ∀ b c, aK e52 b = (0, c, 0) → aK d b = (0, c, 0) := fun b c q => hB b c ((kq b).symm.trans q)
  have k25 := (kq _).trans k25
  have n26 := (congrFun nq _).trans n26
  refine en_segs [(254, .aload_n 0, []), (255, .ldc 51, [46656])] (by decide +kernel) (y := (257, [some (.ref a0)], [.int 46656, .ref a0], h)) rfl ?_
  refine en_nzO (N := 46656) (by decide +kernel : u_at kl_169 257 = some (.newarray .int, [1])) hW (by decide +kernel) (by decide +kernel) rfl hX hS (fun h e53 hEe53 hW x k53 n54 hX1 hS1 => ?_)
  have hf := (x.w ha0).2.trans hf
  have ha0 := (x.w ha0).1
  have n2 := (x.2.2.2.2.2.2.2 _ _ k1).trans n2
  have k1 := x.z k1
  have n4 := (x.2.2.2.2.2.2.2 _ _ k3).trans n4
  have k3 := x.z k3
  have n6 := (x.2.2.2.2.2.2.2 _ _ k5).trans n6
  have k5 := x.z k5
  have n8 := (x.2.2.2.2.2.2.2 _ _ k7).trans n8
  have k7 := x.z k7
  have n10 := (x.2.2.2.2.2.2.2 _ _ k9).trans n10
  have k9 := x.z k9
  have n12 := (x.2.2.2.2.2.2.2 _ _ k11).trans n12
  have k11 := x.z k11
  have n14 := (x.2.2.2.2.2.2.2 _ _ k13).trans n14
  have k13 := x.z k13
  have n16 := (x.2.2.2.2.2.2.2 _ _ k15).trans n16
  have k15 := x.z k15
  have n18 := (x.2.2.2.2.2.2.2 _ _ k17).trans n18
  have k17 := x.z k17
  have n20 := (x.2.2.2.2.2.2.2 _ _ k19).trans n20
  have k19 := x.z k19
  have n22 := (x.2.2.2.2.2.2.2 _ _ k21).trans n22
  have k21 := x.z k21
  have n24 := (x.2.2.2.2.2.2.2 _ _ k23).trans n24
  have k23 := x.z k23
  have n28 := (x.2.2.2.2.2.2.2 _ _ k27).trans n28
  have k27 := x.z k27
  have n30 := (x.2.2.2.2.2.2.2 _ _ k29).trans n30
  have k29 := x.z k29
  have n32 := (x.2.2.2.2.2.2.2 _ _ k31).trans n32
  have k31 := x.z k31
  have n34 := (x.2.2.2.2.2.2.2 _ _ k33).trans n34
  have k33 := x.z k33
  have n36 := (x.2.2.2.2.2.2.2 _ _ k35).trans n36
  have k35 := x.z k35
  have n38 := (x.2.2.2.2.2.2.2 _ _ k37).trans n38
  have k37 := x.z k37
  have n40 := (x.2.2.2.2.2.2.2 _ _ k39).trans n40
  have k39 := x.z k39
  have n42 := (x.2.2.2.2.2.2.2 _ _ k41).trans n42
  have k41 := x.z k41
  have n44 := (x.2.2.2.2.2.2.2 _ _ k43).trans n44
  have k43 := x.z k43
  have n46 := (x.2.2.2.2.2.2.2 _ _ k45).trans n46
  have k45 := x.z k45
  have n48 := (x.2.2.2.2.2.2.2 _ _ k47).trans n48
  have k47 := x.z k47
  have n50 := (x.2.2.2.2.2.2.2 _ _ k49).trans n50
  have k49 := x.z k49
  have n52 := (x.2.2.2.2.2.2.2 _ _ k51).trans n52
  have k51 := x.z k51
  have W := W.trans (Adw.of x)
  have hX : aX e53 = aX d + 27 := hX1
  have hS : aS e53 = aS d + 244384 := hS1.trans (Nat.add_assoc _ _ _)
  have hB : ∀ b c, aK e53 b = (0, c, 0) → aK d b = (0, c, 0) := fun b c q => hB b c (bk_z (by rw [hEe53] at q; exact q))
  have n26 := (x.2.2.2.1 _ _ k25).trans n26
  have k25 := x.f k25
  refine en_putA (fs' := [.ref (aX d + 0), .int 0, .int 0, .ref (aX d + 1), .ref (aX d + 2), .ref (aX d + 3), .ref (aX d + 4), .ref (aX d + 5), .int 0, .int 0, .int 0, .int 0, .int 0, .int 0, .int 0, .ref (aX d + 6), .int 0, .ref (aX d + 7), .int 0, .ref (aX d + 8), .ref (aX d + 9), .int 0, .ref (aX d + 10), .int 0, .ref (aX d + 11), .ref (aX d + 12), .ref (aX d + 13), .ref (aX d + 14), .ref (aX d + 15), .ref (aX d + 16), .ref (aX d + 17), .int 0, .ref (aX d + 18), .ref (aX d + 19), .ref (aX d + 20), .ref (aX d + 21), .ref (aX d + 22), .ref (aX d + 23), .ref (aX d + 24), .int 0, .ref (aX d + 25), .ref (aX d + 26), .null, .null, .null, .null, .long 0, .null, .null, .null, .null, .null]) (by decide +kernel : u_at kl_169 259 = some (.putfield 92, [12, 41, 3])) hW ha0 hf (Nat.le_of_ble_eq_true rfl) rfl rfl hX (fun h e54 hEe54 hW kq nq hX1 hf1 ha01 y => ?_)
  have hS : aS e54 = aS d + 244384 := by rw [hEe54]; exact hS
  have k1 := (kq _).trans k1
  have n2 := (congrFun nq _).trans n2
  have k3 := (kq _).trans k3
  have n4 := (congrFun nq _).trans n4
  have k5 := (kq _).trans k5
  have n6 := (congrFun nq _).trans n6
  have k7 := (kq _).trans k7
  have n8 := (congrFun nq _).trans n8
  have k9 := (kq _).trans k9
  have n10 := (congrFun nq _).trans n10
  have k11 := (kq _).trans k11
  have n12 := (congrFun nq _).trans n12
  have k13 := (kq _).trans k13
  have n14 := (congrFun nq _).trans n14
  have k15 := (kq _).trans k15
  have n16 := (congrFun nq _).trans n16
  have k17 := (kq _).trans k17
  have n18 := (congrFun nq _).trans n18
  have k19 := (kq _).trans k19
  have n20 := (congrFun nq _).trans n20
  have k21 := (kq _).trans k21
  have n22 := (congrFun nq _).trans n22
  have k23 := (kq _).trans k23
  have n24 := (congrFun nq _).trans n24
  have k27 := (kq _).trans k27
  have n28 := (congrFun nq _).trans n28
  have k29 := (kq _).trans k29
  have n30 := (congrFun nq _).trans n30
  have k31 := (kq _).trans k31
  have n32 := (congrFun nq _).trans n32
  have k33 := (kq _).trans k33
  have n34 := (congrFun nq _).trans n34
  have k35 := (kq _).trans k35
  have n36 := (congrFun nq _).trans n36
  have k37 := (kq _).trans k37
  have n38 := (congrFun nq _).trans n38
  have k39 := (kq _).trans k39
  have n40 := (congrFun nq _).trans n40
  have k41 := (kq _).trans k41
  have n42 := (congrFun nq _).trans n42
  have k43 := (kq _).trans k43
  have n44 := (congrFun nq _).trans n44
  have k45 := (kq _).trans k45
  have n46 := (congrFun nq _).trans n46
  have k47 := (kq _).trans k47
  have n48 := (congrFun nq _).trans n48
  have k49 := (kq _).trans k49
  have n50 := (congrFun nq _).trans n50
  have k51 := (kq _).trans k51
  have n52 := (congrFun nq _).trans n52
  have k53 := (kq _).trans k53
  have n54 := (congrFun nq _).trans n54
  have W := W.trans y
  have hX := hX1
  have hf := hf1
  have ha0 := ha01
  have hB : ∀ b c, aK e54 b = (0, c, 0) → aK d b = (0, c, 0) := fun b c q => hB b c ((kq b).symm.trans q)
  have k25 := (kq _).trans k25
  have n26 := (congrFun nq _).trans n26
  refine en_segs [(262, .aload_n 0, []), (263, .ldc 51, [46656])] (by decide +kernel) (y := (265, [some (.ref a0)], [.int 46656, .ref a0], h)) rfl ?_
  refine en_nzO (N := 46656) (by decide +kernel : u_at kl_169 265 = some (.newarray .int, [1])) hW (by decide +kernel) (by decide +kernel) rfl hX hS (fun h e55 hEe55 hW x k55 n56 hX1 hS1 => ?_)
  have hf := (x.w ha0).2.trans hf
  have ha0 := (x.w ha0).1
  have n2 := (x.2.2.2.2.2.2.2 _ _ k1).trans n2
  have k1 := x.z k1
  have n4 := (x.2.2.2.2.2.2.2 _ _ k3).trans n4
  have k3 := x.z k3
  have n6 := (x.2.2.2.2.2.2.2 _ _ k5).trans n6
  have k5 := x.z k5
  have n8 := (x.2.2.2.2.2.2.2 _ _ k7).trans n8
  have k7 := x.z k7
  have n10 := (x.2.2.2.2.2.2.2 _ _ k9).trans n10
  have k9 := x.z k9
  have n12 := (x.2.2.2.2.2.2.2 _ _ k11).trans n12
  have k11 := x.z k11
  have n14 := (x.2.2.2.2.2.2.2 _ _ k13).trans n14
  have k13 := x.z k13
  have n16 := (x.2.2.2.2.2.2.2 _ _ k15).trans n16
  have k15 := x.z k15
  have n18 := (x.2.2.2.2.2.2.2 _ _ k17).trans n18
  have k17 := x.z k17
  have n20 := (x.2.2.2.2.2.2.2 _ _ k19).trans n20
  have k19 := x.z k19
  have n22 := (x.2.2.2.2.2.2.2 _ _ k21).trans n22
  have k21 := x.z k21
  have n24 := (x.2.2.2.2.2.2.2 _ _ k23).trans n24
  have k23 := x.z k23
  have n28 := (x.2.2.2.2.2.2.2 _ _ k27).trans n28
  have k27 := x.z k27
  have n30 := (x.2.2.2.2.2.2.2 _ _ k29).trans n30
  have k29 := x.z k29
  have n32 := (x.2.2.2.2.2.2.2 _ _ k31).trans n32
  have k31 := x.z k31
  have n34 := (x.2.2.2.2.2.2.2 _ _ k33).trans n34
  have k33 := x.z k33
  have n36 := (x.2.2.2.2.2.2.2 _ _ k35).trans n36
  have k35 := x.z k35
  have n38 := (x.2.2.2.2.2.2.2 _ _ k37).trans n38
  have k37 := x.z k37
  have n40 := (x.2.2.2.2.2.2.2 _ _ k39).trans n40
  have k39 := x.z k39
  have n42 := (x.2.2.2.2.2.2.2 _ _ k41).trans n42
  have k41 := x.z k41
  have n44 := (x.2.2.2.2.2.2.2 _ _ k43).trans n44
  have k43 := x.z k43
  have n46 := (x.2.2.2.2.2.2.2 _ _ k45).trans n46
  have k45 := x.z k45
  have n48 := (x.2.2.2.2.2.2.2 _ _ k47).trans n48
  have k47 := x.z k47
  have n50 := (x.2.2.2.2.2.2.2 _ _ k49).trans n50
  have k49 := x.z k49
  have n52 := (x.2.2.2.2.2.2.2 _ _ k51).trans n52
  have k51 := x.z k51
  have n54 := (x.2.2.2.2.2.2.2 _ _ k53).trans n54
  have k53 := x.z k53
  have W := W.trans (Adw.of x)
  have hX : aX e55 = aX d + 28 := hX1
  have hS : aS e55 = aS d + 291040 := hS1.trans (Nat.add_assoc _ _ _)
  have hB : ∀ b c, aK e55 b = (0, c, 0) → aK d b = (0, c, 0) := fun b c q => hB b c (bk_z (by rw [hEe55] at q; exact q))
  have n26 := (x.2.2.2.1 _ _ k25).trans n26
  have k25 := x.f k25
  refine en_putA (fs' := [.ref (aX d + 0), .int 0, .int 0, .ref (aX d + 1), .ref (aX d + 2), .ref (aX d + 3), .ref (aX d + 4), .ref (aX d + 5), .int 0, .int 0, .int 0, .int 0, .int 0, .int 0, .int 0, .ref (aX d + 6), .int 0, .ref (aX d + 7), .int 0, .ref (aX d + 8), .ref (aX d + 9), .int 0, .ref (aX d + 10), .int 0, .ref (aX d + 11), .ref (aX d + 12), .ref (aX d + 13), .ref (aX d + 14), .ref (aX d + 15), .ref (aX d + 16), .ref (aX d + 17), .int 0, .ref (aX d + 18), .ref (aX d + 19), .ref (aX d + 20), .ref (aX d + 21), .ref (aX d + 22), .ref (aX d + 23), .ref (aX d + 24), .int 0, .ref (aX d + 25), .ref (aX d + 26), .ref (aX d + 27), .null, .null, .null, .long 0, .null, .null, .null, .null, .null]) (by decide +kernel : u_at kl_169 267 = some (.putfield 95, [12, 42, 3])) hW ha0 hf (Nat.le_of_ble_eq_true rfl) rfl rfl hX (fun h e56 hEe56 hW kq nq hX1 hf1 ha01 y => ?_)
  have hS : aS e56 = aS d + 291040 := by rw [hEe56]; exact hS
  have k1 := (kq _).trans k1
  have n2 := (congrFun nq _).trans n2
  have k3 := (kq _).trans k3
  have n4 := (congrFun nq _).trans n4
  have k5 := (kq _).trans k5
  have n6 := (congrFun nq _).trans n6
  have k7 := (kq _).trans k7
  have n8 := (congrFun nq _).trans n8
  have k9 := (kq _).trans k9
  have n10 := (congrFun nq _).trans n10
  have k11 := (kq _).trans k11
  have n12 := (congrFun nq _).trans n12
  have k13 := (kq _).trans k13
  have n14 := (congrFun nq _).trans n14
  have k15 := (kq _).trans k15
  have n16 := (congrFun nq _).trans n16
  have k17 := (kq _).trans k17
  have n18 := (congrFun nq _).trans n18
  have k19 := (kq _).trans k19
  have n20 := (congrFun nq _).trans n20
  have k21 := (kq _).trans k21
  have n22 := (congrFun nq _).trans n22
  have k23 := (kq _).trans k23
  have n24 := (congrFun nq _).trans n24
  have k27 := (kq _).trans k27
  have n28 := (congrFun nq _).trans n28
  have k29 := (kq _).trans k29
  have n30 := (congrFun nq _).trans n30
  have k31 := (kq _).trans k31
  have n32 := (congrFun nq _).trans n32
  have k33 := (kq _).trans k33
  have n34 := (congrFun nq _).trans n34
  have k35 := (kq _).trans k35
  have n36 := (congrFun nq _).trans n36
  have k37 := (kq _).trans k37
  have n38 := (congrFun nq _).trans n38
  have k39 := (kq _).trans k39
  have n40 := (congrFun nq _).trans n40
  have k41 := (kq _).trans k41
  have n42 := (congrFun nq _).trans n42
  have k43 := (kq _).trans k43
  have n44 := (congrFun nq _).trans n44
  have k45 := (kq _).trans k45
  have n46 := (congrFun nq _).trans n46
  have k47 := (kq _).trans k47
  have n48 := (congrFun nq _).trans n48
  have k49 := (kq _).trans k49
  have n50 := (congrFun nq _).trans n50
  have k51 := (kq _).trans k51
  have n52 := (congrFun nq _).trans n52
  have k53 := (kq _).trans k53
  have n54 := (congrFun nq _).trans n54
  have k55 := (kq _).trans k55
  have n56 := (congrFun nq _).trans n56
  have W := W.trans y
  have hX := hX1
  have hf := hf1
  have ha0 := ha01
  have hB : ∀ b c, aK e56 b = (0, c, 0) → aK d b = (0, c, 0) := fun b c q => hB b c ((kq b).symm.trans q)
  have k25 := (kq _).trans k25
  have n26 := (congrFun nq _).trans n26
  refine en_segs [(270, .aload_n 0, []), (271, .bipush 64, [])] (by decide +kernel) (y := (273, [some (.ref a0)], [.int 64, .ref a0], h)) rfl ?_
  refine en_nzO (N := 64) (by decide +kernel : u_at kl_169 273 = some (.newarray .long, [2])) hW (by decide +kernel) (by decide +kernel) rfl hX hS (fun h e57 hEe57 hW x k57 n58 hX1 hS1 => ?_)
  have hf := (x.w ha0).2.trans hf
  have ha0 := (x.w ha0).1
  have n2 := (x.2.2.2.2.2.2.2 _ _ k1).trans n2
  have k1 := x.z k1
  have n4 := (x.2.2.2.2.2.2.2 _ _ k3).trans n4
  have k3 := x.z k3
  have n6 := (x.2.2.2.2.2.2.2 _ _ k5).trans n6
  have k5 := x.z k5
  have n8 := (x.2.2.2.2.2.2.2 _ _ k7).trans n8
  have k7 := x.z k7
  have n10 := (x.2.2.2.2.2.2.2 _ _ k9).trans n10
  have k9 := x.z k9
  have n12 := (x.2.2.2.2.2.2.2 _ _ k11).trans n12
  have k11 := x.z k11
  have n14 := (x.2.2.2.2.2.2.2 _ _ k13).trans n14
  have k13 := x.z k13
  have n16 := (x.2.2.2.2.2.2.2 _ _ k15).trans n16
  have k15 := x.z k15
  have n18 := (x.2.2.2.2.2.2.2 _ _ k17).trans n18
  have k17 := x.z k17
  have n20 := (x.2.2.2.2.2.2.2 _ _ k19).trans n20
  have k19 := x.z k19
  have n22 := (x.2.2.2.2.2.2.2 _ _ k21).trans n22
  have k21 := x.z k21
  have n24 := (x.2.2.2.2.2.2.2 _ _ k23).trans n24
  have k23 := x.z k23
  have n28 := (x.2.2.2.2.2.2.2 _ _ k27).trans n28
  have k27 := x.z k27
  have n30 := (x.2.2.2.2.2.2.2 _ _ k29).trans n30
  have k29 := x.z k29
  have n32 := (x.2.2.2.2.2.2.2 _ _ k31).trans n32
  have k31 := x.z k31
  have n34 := (x.2.2.2.2.2.2.2 _ _ k33).trans n34
  have k33 := x.z k33
  have n36 := (x.2.2.2.2.2.2.2 _ _ k35).trans n36
  have k35 := x.z k35
  have n38 := (x.2.2.2.2.2.2.2 _ _ k37).trans n38
  have k37 := x.z k37
  have n40 := (x.2.2.2.2.2.2.2 _ _ k39).trans n40
  have k39 := x.z k39
  have n42 := (x.2.2.2.2.2.2.2 _ _ k41).trans n42
  have k41 := x.z k41
  have n44 := (x.2.2.2.2.2.2.2 _ _ k43).trans n44
  have k43 := x.z k43
  have n46 := (x.2.2.2.2.2.2.2 _ _ k45).trans n46
  have k45 := x.z k45
  have n48 := (x.2.2.2.2.2.2.2 _ _ k47).trans n48
  have k47 := x.z k47
  have n50 := (x.2.2.2.2.2.2.2 _ _ k49).trans n50
  have k49 := x.z k49
  have n52 := (x.2.2.2.2.2.2.2 _ _ k51).trans n52
  have k51 := x.z k51
  have n54 := (x.2.2.2.2.2.2.2 _ _ k53).trans n54
  have k53 := x.z k53
  have n56 := (x.2.2.2.2.2.2.2 _ _ k55).trans n56
  have k55 := x.z k55
  have W := W.trans (Adw.of x)
  have hX : aX e57 = aX d + 29 := hX1
  have hS : aS e57 = aS d + 291104 := hS1.trans (Nat.add_assoc _ _ _)
  have hB : ∀ b c, aK e57 b = (0, c, 0) → aK d b = (0, c, 0) := fun b c q => hB b c (bk_z (by rw [hEe57] at q; exact q))
  have n26 := (x.2.2.2.1 _ _ k25).trans n26
  have k25 := x.f k25
  refine en_putA (fs' := [.ref (aX d + 0), .int 0, .int 0, .ref (aX d + 1), .ref (aX d + 2), .ref (aX d + 3), .ref (aX d + 4), .ref (aX d + 5), .int 0, .int 0, .int 0, .int 0, .int 0, .int 0, .int 0, .ref (aX d + 6), .int 0, .ref (aX d + 7), .int 0, .ref (aX d + 8), .ref (aX d + 9), .int 0, .ref (aX d + 10), .int 0, .ref (aX d + 11), .ref (aX d + 12), .ref (aX d + 13), .ref (aX d + 14), .ref (aX d + 15), .ref (aX d + 16), .ref (aX d + 17), .int 0, .ref (aX d + 18), .ref (aX d + 19), .ref (aX d + 20), .ref (aX d + 21), .ref (aX d + 22), .ref (aX d + 23), .ref (aX d + 24), .int 0, .ref (aX d + 25), .ref (aX d + 26), .ref (aX d + 27), .ref (aX d + 28), .null, .null, .long 0, .null, .null, .null, .null, .null]) (by decide +kernel : u_at kl_169 275 = some (.putfield 98, [12, 43, 3])) hW ha0 hf (Nat.le_of_ble_eq_true rfl) rfl rfl hX (fun h e58 hEe58 hW kq nq hX1 hf1 ha01 y => ?_)
  have hS : aS e58 = aS d + 291104 := by rw [hEe58]; exact hS
  have k1 := (kq _).trans k1
  have n2 := (congrFun nq _).trans n2
  have k3 := (kq _).trans k3
  have n4 := (congrFun nq _).trans n4
  have k5 := (kq _).trans k5
  have n6 := (congrFun nq _).trans n6
  have k7 := (kq _).trans k7
  have n8 := (congrFun nq _).trans n8
  have k9 := (kq _).trans k9
  have n10 := (congrFun nq _).trans n10
  have k11 := (kq _).trans k11
  have n12 := (congrFun nq _).trans n12
  have k13 := (kq _).trans k13
  have n14 := (congrFun nq _).trans n14
  have k15 := (kq _).trans k15
  have n16 := (congrFun nq _).trans n16
  have k17 := (kq _).trans k17
  have n18 := (congrFun nq _).trans n18
  have k19 := (kq _).trans k19
  have n20 := (congrFun nq _).trans n20
  have k21 := (kq _).trans k21
  have n22 := (congrFun nq _).trans n22
  have k23 := (kq _).trans k23
  have n24 := (congrFun nq _).trans n24
  have k27 := (kq _).trans k27
  have n28 := (congrFun nq _).trans n28
  have k29 := (kq _).trans k29
  have n30 := (congrFun nq _).trans n30
  have k31 := (kq _).trans k31
  have n32 := (congrFun nq _).trans n32
  have k33 := (kq _).trans k33
  have n34 := (congrFun nq _).trans n34
  have k35 := (kq _).trans k35
  have n36 := (congrFun nq _).trans n36
  have k37 := (kq _).trans k37
  have n38 := (congrFun nq _).trans n38
  have k39 := (kq _).trans k39
  have n40 := (congrFun nq _).trans n40
  have k41 := (kq _).trans k41
  have n42 := (congrFun nq _).trans n42
  have k43 := (kq _).trans k43
  have n44 := (congrFun nq _).trans n44
  have k45 := (kq _).trans k45
  have n46 := (congrFun nq _).trans n46
  have k47 := (kq _).trans k47
  have n48 := (congrFun nq _).trans n48
  have k49 := (kq _).trans k49
  have n50 := (congrFun nq _).trans n50
  have k51 := (kq _).trans k51
  have n52 := (congrFun nq _).trans n52
  have k53 := (kq _).trans k53
  have n54 := (congrFun nq _).trans n54
  have k55 := (kq _).trans k55
  have n56 := (congrFun nq _).trans n56
  have k57 := (kq _).trans k57
  have n58 := (congrFun nq _).trans n58
  have W := W.trans y
  have hX := hX1
  have hf := hf1
  have ha0 := ha01
  have hB : ∀ b c, aK e58 b = (0, c, 0) → aK d b = (0, c, 0) := fun b c q => hB b c ((kq b).symm.trans q)
  have k25 := (kq _).trans k25
  have n26 := (congrFun nq _).trans n26
  refine en_segs [(278, .aload_n 0, []), (279, .bipush 64, [])] (by decide +kernel) (y := (281, [some (.ref a0)], [.int 64, .ref a0], h)) rfl ?_
  refine en_nzO (N := 64) (by decide +kernel : u_at kl_169 281 = some (.newarray .long, [2])) hW (by decide +kernel) (by decide +kernel) rfl hX hS (fun h e59 hEe59 hW x k59 n60 hX1 hS1 => ?_)
  have hf := (x.w ha0).2.trans hf
  have ha0 := (x.w ha0).1
  have n2 := (x.2.2.2.2.2.2.2 _ _ k1).trans n2
  have k1 := x.z k1
  have n4 := (x.2.2.2.2.2.2.2 _ _ k3).trans n4
  have k3 := x.z k3
  have n6 := (x.2.2.2.2.2.2.2 _ _ k5).trans n6
  have k5 := x.z k5
  have n8 := (x.2.2.2.2.2.2.2 _ _ k7).trans n8
  have k7 := x.z k7
  have n10 := (x.2.2.2.2.2.2.2 _ _ k9).trans n10
  have k9 := x.z k9
  have n12 := (x.2.2.2.2.2.2.2 _ _ k11).trans n12
  have k11 := x.z k11
  have n14 := (x.2.2.2.2.2.2.2 _ _ k13).trans n14
  have k13 := x.z k13
  have n16 := (x.2.2.2.2.2.2.2 _ _ k15).trans n16
  have k15 := x.z k15
  have n18 := (x.2.2.2.2.2.2.2 _ _ k17).trans n18
  have k17 := x.z k17
  have n20 := (x.2.2.2.2.2.2.2 _ _ k19).trans n20
  have k19 := x.z k19
  have n22 := (x.2.2.2.2.2.2.2 _ _ k21).trans n22
  have k21 := x.z k21
  have n24 := (x.2.2.2.2.2.2.2 _ _ k23).trans n24
  have k23 := x.z k23
  have n28 := (x.2.2.2.2.2.2.2 _ _ k27).trans n28
  have k27 := x.z k27
  have n30 := (x.2.2.2.2.2.2.2 _ _ k29).trans n30
  have k29 := x.z k29
  have n32 := (x.2.2.2.2.2.2.2 _ _ k31).trans n32
  have k31 := x.z k31
  have n34 := (x.2.2.2.2.2.2.2 _ _ k33).trans n34
  have k33 := x.z k33
  have n36 := (x.2.2.2.2.2.2.2 _ _ k35).trans n36
  have k35 := x.z k35
  have n38 := (x.2.2.2.2.2.2.2 _ _ k37).trans n38
  have k37 := x.z k37
  have n40 := (x.2.2.2.2.2.2.2 _ _ k39).trans n40
  have k39 := x.z k39
  have n42 := (x.2.2.2.2.2.2.2 _ _ k41).trans n42
  have k41 := x.z k41
  have n44 := (x.2.2.2.2.2.2.2 _ _ k43).trans n44
  have k43 := x.z k43
  have n46 := (x.2.2.2.2.2.2.2 _ _ k45).trans n46
  have k45 := x.z k45
  have n48 := (x.2.2.2.2.2.2.2 _ _ k47).trans n48
  have k47 := x.z k47
  have n50 := (x.2.2.2.2.2.2.2 _ _ k49).trans n50
  have k49 := x.z k49
  have n52 := (x.2.2.2.2.2.2.2 _ _ k51).trans n52
  have k51 := x.z k51
  have n54 := (x.2.2.2.2.2.2.2 _ _ k53).trans n54
  have k53 := x.z k53
  have n56 := (x.2.2.2.2.2.2.2 _ _ k55).trans n56
  have k55 := x.z k55
  have n58 := (x.2.2.2.2.2.2.2 _ _ k57).trans n58
  have k57 := x.z k57
  have W := W.trans (Adw.of x)
  have hX : aX e59 = aX d + 30 := hX1
  have hS : aS e59 = aS d + 291168 := hS1.trans (Nat.add_assoc _ _ _)
  have hB : ∀ b c, aK e59 b = (0, c, 0) → aK d b = (0, c, 0) := fun b c q => hB b c (bk_z (by rw [hEe59] at q; exact q))
  have n26 := (x.2.2.2.1 _ _ k25).trans n26
  have k25 := x.f k25
  refine en_putA (fs' := [.ref (aX d + 0), .int 0, .int 0, .ref (aX d + 1), .ref (aX d + 2), .ref (aX d + 3), .ref (aX d + 4), .ref (aX d + 5), .int 0, .int 0, .int 0, .int 0, .int 0, .int 0, .int 0, .ref (aX d + 6), .int 0, .ref (aX d + 7), .int 0, .ref (aX d + 8), .ref (aX d + 9), .int 0, .ref (aX d + 10), .int 0, .ref (aX d + 11), .ref (aX d + 12), .ref (aX d + 13), .ref (aX d + 14), .ref (aX d + 15), .ref (aX d + 16), .ref (aX d + 17), .int 0, .ref (aX d + 18), .ref (aX d + 19), .ref (aX d + 20), .ref (aX d + 21), .ref (aX d + 22), .ref (aX d + 23), .ref (aX d + 24), .int 0, .ref (aX d + 25), .ref (aX d + 26), .ref (aX d + 27), .ref (aX d + 28), .ref (aX d + 29), .null, .long 0, .null, .null, .null, .null, .null]) (by decide +kernel : u_at kl_169 283 = some (.putfield 101, [12, 44, 3])) hW ha0 hf (Nat.le_of_ble_eq_true rfl) rfl rfl hX (fun h e60 hEe60 hW kq nq hX1 hf1 ha01 y => ?_)
  have hS : aS e60 = aS d + 291168 := by rw [hEe60]; exact hS
  have k1 := (kq _).trans k1
  have n2 := (congrFun nq _).trans n2
  have k3 := (kq _).trans k3
  have n4 := (congrFun nq _).trans n4
  have k5 := (kq _).trans k5
  have n6 := (congrFun nq _).trans n6
  have k7 := (kq _).trans k7
  have n8 := (congrFun nq _).trans n8
  have k9 := (kq _).trans k9
  have n10 := (congrFun nq _).trans n10
  have k11 := (kq _).trans k11
  have n12 := (congrFun nq _).trans n12
  have k13 := (kq _).trans k13
  have n14 := (congrFun nq _).trans n14
  have k15 := (kq _).trans k15
  have n16 := (congrFun nq _).trans n16
  have k17 := (kq _).trans k17
  have n18 := (congrFun nq _).trans n18
  have k19 := (kq _).trans k19
  have n20 := (congrFun nq _).trans n20
  have k21 := (kq _).trans k21
  have n22 := (congrFun nq _).trans n22
  have k23 := (kq _).trans k23
  have n24 := (congrFun nq _).trans n24
  have k27 := (kq _).trans k27
  have n28 := (congrFun nq _).trans n28
  have k29 := (kq _).trans k29
  have n30 := (congrFun nq _).trans n30
  have k31 := (kq _).trans k31
  have n32 := (congrFun nq _).trans n32
  have k33 := (kq _).trans k33
  have n34 := (congrFun nq _).trans n34
  have k35 := (kq _).trans k35
  have n36 := (congrFun nq _).trans n36
  have k37 := (kq _).trans k37
  have n38 := (congrFun nq _).trans n38
  have k39 := (kq _).trans k39
  have n40 := (congrFun nq _).trans n40
  have k41 := (kq _).trans k41
  have n42 := (congrFun nq _).trans n42
  have k43 := (kq _).trans k43
  have n44 := (congrFun nq _).trans n44
  have k45 := (kq _).trans k45
  have n46 := (congrFun nq _).trans n46
  have k47 := (kq _).trans k47
  have n48 := (congrFun nq _).trans n48
  have k49 := (kq _).trans k49
  have n50 := (congrFun nq _).trans n50
  have k51 := (kq _).trans k51
  have n52 := (congrFun nq _).trans n52
  have k53 := (kq _).trans k53
  have n54 := (congrFun nq _).trans n54
  have k55 := (kq _).trans k55
  have n56 := (congrFun nq _).trans n56
  have k57 := (kq _).trans k57
  have n58 := (congrFun nq _).trans n58
  have k59 := (kq _).trans k59
  have n60 := (congrFun nq _).trans n60
  have W := W.trans y
  have hX := hX1
  have hf := hf1
  have ha0 := ha01
  have hB : ∀ b c, aK e60 b = (0, c, 0) → aK d b = (0, c, 0) := fun b c q => hB b c ((kq b).symm.trans q)
  have k25 := (kq _).trans k25
  have n26 := (congrFun nq _).trans n26
  refine en_segs [(286, .aload_n 0, []), (287, .sipush 221, [])] (by decide +kernel) (y := (290, [some (.ref a0)], [.int 221, .ref a0], h)) rfl ?_
  refine en_nzO (N := 221) (by decide +kernel : u_at kl_169 290 = some (.newarray .int, [1])) hW (by decide +kernel) (by decide +kernel) rfl hX hS (fun h e61 hEe61 hW x k61 n62 hX1 hS1 => ?_)
  have hf := (x.w ha0).2.trans hf
  have ha0 := (x.w ha0).1
  have n2 := (x.2.2.2.2.2.2.2 _ _ k1).trans n2
  have k1 := x.z k1
  have n4 := (x.2.2.2.2.2.2.2 _ _ k3).trans n4
  have k3 := x.z k3
  have n6 := (x.2.2.2.2.2.2.2 _ _ k5).trans n6
  have k5 := x.z k5
  have n8 := (x.2.2.2.2.2.2.2 _ _ k7).trans n8
  have k7 := x.z k7
  have n10 := (x.2.2.2.2.2.2.2 _ _ k9).trans n10
  have k9 := x.z k9
  have n12 := (x.2.2.2.2.2.2.2 _ _ k11).trans n12
  have k11 := x.z k11
  have n14 := (x.2.2.2.2.2.2.2 _ _ k13).trans n14
  have k13 := x.z k13
  have n16 := (x.2.2.2.2.2.2.2 _ _ k15).trans n16
  have k15 := x.z k15
  have n18 := (x.2.2.2.2.2.2.2 _ _ k17).trans n18
  have k17 := x.z k17
  have n20 := (x.2.2.2.2.2.2.2 _ _ k19).trans n20
  have k19 := x.z k19
  have n22 := (x.2.2.2.2.2.2.2 _ _ k21).trans n22
  have k21 := x.z k21
  have n24 := (x.2.2.2.2.2.2.2 _ _ k23).trans n24
  have k23 := x.z k23
  have n28 := (x.2.2.2.2.2.2.2 _ _ k27).trans n28
  have k27 := x.z k27
  have n30 := (x.2.2.2.2.2.2.2 _ _ k29).trans n30
  have k29 := x.z k29
  have n32 := (x.2.2.2.2.2.2.2 _ _ k31).trans n32
  have k31 := x.z k31
  have n34 := (x.2.2.2.2.2.2.2 _ _ k33).trans n34
  have k33 := x.z k33
  have n36 := (x.2.2.2.2.2.2.2 _ _ k35).trans n36
  have k35 := x.z k35
  have n38 := (x.2.2.2.2.2.2.2 _ _ k37).trans n38
  have k37 := x.z k37
  have n40 := (x.2.2.2.2.2.2.2 _ _ k39).trans n40
  have k39 := x.z k39
  have n42 := (x.2.2.2.2.2.2.2 _ _ k41).trans n42
  have k41 := x.z k41
  have n44 := (x.2.2.2.2.2.2.2 _ _ k43).trans n44
  have k43 := x.z k43
  have n46 := (x.2.2.2.2.2.2.2 _ _ k45).trans n46
  have k45 := x.z k45
  have n48 := (x.2.2.2.2.2.2.2 _ _ k47).trans n48
  have k47 := x.z k47
  have n50 := (x.2.2.2.2.2.2.2 _ _ k49).trans n50
  have k49 := x.z k49
  have n52 := (x.2.2.2.2.2.2.2 _ _ k51).trans n52
  have k51 := x.z k51
  have n54 := (x.2.2.2.2.2.2.2 _ _ k53).trans n54
  have k53 := x.z k53
  have n56 := (x.2.2.2.2.2.2.2 _ _ k55).trans n56
  have k55 := x.z k55
  have n58 := (x.2.2.2.2.2.2.2 _ _ k57).trans n58
  have k57 := x.z k57
  have n60 := (x.2.2.2.2.2.2.2 _ _ k59).trans n60
  have k59 := x.z k59
  have W := W.trans (Adw.of x)
  have hX : aX e61 = aX d + 31 := hX1
  have hS : aS e61 = aS d + 291389 := hS1.trans (Nat.add_assoc _ _ _)
  have hB : ∀ b c, aK e61 b = (0, c, 0) → aK d b = (0, c, 0) := fun b c q => hB b c (bk_z (by rw [hEe61] at q; exact q))
  have n26 := (x.2.2.2.1 _ _ k25).trans n26
  have k25 := x.f k25
  refine en_putA (fs' := [.ref (aX d + 0), .int 0, .int 0, .ref (aX d + 1), .ref (aX d + 2), .ref (aX d + 3), .ref (aX d + 4), .ref (aX d + 5), .int 0, .int 0, .int 0, .int 0, .int 0, .int 0, .int 0, .ref (aX d + 6), .int 0, .ref (aX d + 7), .int 0, .ref (aX d + 8), .ref (aX d + 9), .int 0, .ref (aX d + 10), .int 0, .ref (aX d + 11), .ref (aX d + 12), .ref (aX d + 13), .ref (aX d + 14), .ref (aX d + 15), .ref (aX d + 16), .ref (aX d + 17), .int 0, .ref (aX d + 18), .ref (aX d + 19), .ref (aX d + 20), .ref (aX d + 21), .ref (aX d + 22), .ref (aX d + 23), .ref (aX d + 24), .int 0, .ref (aX d + 25), .ref (aX d + 26), .ref (aX d + 27), .ref (aX d + 28), .ref (aX d + 29), .ref (aX d + 30), .long 0, .null, .null, .null, .null, .null]) (by decide +kernel : u_at kl_169 292 = some (.putfield 104, [12, 45, 3])) hW ha0 hf (Nat.le_of_ble_eq_true rfl) rfl rfl hX (fun h e62 hEe62 hW kq nq hX1 hf1 ha01 y => ?_)
  have hS : aS e62 = aS d + 291389 := by rw [hEe62]; exact hS
  have k1 := (kq _).trans k1
  have n2 := (congrFun nq _).trans n2
  have k3 := (kq _).trans k3
  have n4 := (congrFun nq _).trans n4
  have k5 := (kq _).trans k5
  have n6 := (congrFun nq _).trans n6
  have k7 := (kq _).trans k7
  have n8 := (congrFun nq _).trans n8
  have k9 := (kq _).trans k9
  have n10 := (congrFun nq _).trans n10
  have k11 := (kq _).trans k11
  have n12 := (congrFun nq _).trans n12
  have k13 := (kq _).trans k13
  have n14 := (congrFun nq _).trans n14
  have k15 := (kq _).trans k15
  have n16 := (congrFun nq _).trans n16
  have k17 := (kq _).trans k17
  have n18 := (congrFun nq _).trans n18
  have k19 := (kq _).trans k19
  have n20 := (congrFun nq _).trans n20
  have k21 := (kq _).trans k21
  have n22 := (congrFun nq _).trans n22
  have k23 := (kq _).trans k23
  have n24 := (congrFun nq _).trans n24
  have k27 := (kq _).trans k27
  have n28 := (congrFun nq _).trans n28
  have k29 := (kq _).trans k29
  have n30 := (congrFun nq _).trans n30
  have k31 := (kq _).trans k31
  have n32 := (congrFun nq _).trans n32
  have k33 := (kq _).trans k33
  have n34 := (congrFun nq _).trans n34
  have k35 := (kq _).trans k35
  have n36 := (congrFun nq _).trans n36
  have k37 := (kq _).trans k37
  have n38 := (congrFun nq _).trans n38
  have k39 := (kq _).trans k39
  have n40 := (congrFun nq _).trans n40
  have k41 := (kq _).trans k41
  have n42 := (congrFun nq _).trans n42
  have k43 := (kq _).trans k43
  have n44 := (congrFun nq _).trans n44
  have k45 := (kq _).trans k45
  have n46 := (congrFun nq _).trans n46
  have k47 := (kq _).trans k47
  have n48 := (congrFun nq _).trans n48
  have k49 := (kq _).trans k49
  have n50 := (congrFun nq _).trans n50
  have k51 := (kq _).trans k51
  have n52 := (congrFun nq _).trans n52
  have k53 := (kq _).trans k53
  have n54 := (congrFun nq _).trans n54
  have k55 := (kq _).trans k55
  have n56 := (congrFun nq _).trans n56
  have k57 := (kq _).trans k57
  have n58 := (congrFun nq _).trans n58
  have k59 := (kq _).trans k59
  have n60 := (congrFun nq _).trans n60
  have k61 := (kq _).trans k61
  have n62 := (congrFun nq _).trans n62
  have W := W.trans y
  have hX := hX1
  have hf := hf1
  have ha0 := ha01
  have hB : ∀ b c, aK e62 b = (0, c, 0) → aK d b = (0, c, 0) := fun b c q => hB b c ((kq b).symm.trans q)
  have k25 := (kq _).trans k25
  have n26 := (congrFun nq _).trans n26
  refine en_segs [(295, .aload_n 0, []), (296, .sipush 884, [])] (by decide +kernel) (y := (299, [some (.ref a0)], [.int 884, .ref a0], h)) rfl ?_
  refine en_nzO (N := 884) (by decide +kernel : u_at kl_169 299 = some (.newarray .int, [1])) hW (by decide +kernel) (by decide +kernel) rfl hX hS (fun h e63 hEe63 hW x k63 n64 hX1 hS1 => ?_)
  have hf := (x.w ha0).2.trans hf
  have ha0 := (x.w ha0).1
  have n2 := (x.2.2.2.2.2.2.2 _ _ k1).trans n2
  have k1 := x.z k1
  have n4 := (x.2.2.2.2.2.2.2 _ _ k3).trans n4
  have k3 := x.z k3
  have n6 := (x.2.2.2.2.2.2.2 _ _ k5).trans n6
  have k5 := x.z k5
  have n8 := (x.2.2.2.2.2.2.2 _ _ k7).trans n8
  have k7 := x.z k7
  have n10 := (x.2.2.2.2.2.2.2 _ _ k9).trans n10
  have k9 := x.z k9
  have n12 := (x.2.2.2.2.2.2.2 _ _ k11).trans n12
  have k11 := x.z k11
  have n14 := (x.2.2.2.2.2.2.2 _ _ k13).trans n14
  have k13 := x.z k13
  have n16 := (x.2.2.2.2.2.2.2 _ _ k15).trans n16
  have k15 := x.z k15
  have n18 := (x.2.2.2.2.2.2.2 _ _ k17).trans n18
  have k17 := x.z k17
  have n20 := (x.2.2.2.2.2.2.2 _ _ k19).trans n20
  have k19 := x.z k19
  have n22 := (x.2.2.2.2.2.2.2 _ _ k21).trans n22
  have k21 := x.z k21
  have n24 := (x.2.2.2.2.2.2.2 _ _ k23).trans n24
  have k23 := x.z k23
  have n28 := (x.2.2.2.2.2.2.2 _ _ k27).trans n28
  have k27 := x.z k27
  have n30 := (x.2.2.2.2.2.2.2 _ _ k29).trans n30
  have k29 := x.z k29
  have n32 := (x.2.2.2.2.2.2.2 _ _ k31).trans n32
  have k31 := x.z k31
  have n34 := (x.2.2.2.2.2.2.2 _ _ k33).trans n34
  have k33 := x.z k33
  have n36 := (x.2.2.2.2.2.2.2 _ _ k35).trans n36
  have k35 := x.z k35
  have n38 := (x.2.2.2.2.2.2.2 _ _ k37).trans n38
  have k37 := x.z k37
  have n40 := (x.2.2.2.2.2.2.2 _ _ k39).trans n40
  have k39 := x.z k39
  have n42 := (x.2.2.2.2.2.2.2 _ _ k41).trans n42
  have k41 := x.z k41
  have n44 := (x.2.2.2.2.2.2.2 _ _ k43).trans n44
  have k43 := x.z k43
  have n46 := (x.2.2.2.2.2.2.2 _ _ k45).trans n46
  have k45 := x.z k45
  have n48 := (x.2.2.2.2.2.2.2 _ _ k47).trans n48
  have k47 := x.z k47
  have n50 := (x.2.2.2.2.2.2.2 _ _ k49).trans n50
  have k49 := x.z k49
  have n52 := (x.2.2.2.2.2.2.2 _ _ k51).trans n52
  have k51 := x.z k51
  have n54 := (x.2.2.2.2.2.2.2 _ _ k53).trans n54
  have k53 := x.z k53
  have n56 := (x.2.2.2.2.2.2.2 _ _ k55).trans n56
  have k55 := x.z k55
  have n58 := (x.2.2.2.2.2.2.2 _ _ k57).trans n58
  have k57 := x.z k57
  have n60 := (x.2.2.2.2.2.2.2 _ _ k59).trans n60
  have k59 := x.z k59
  have n62 := (x.2.2.2.2.2.2.2 _ _ k61).trans n62
  have k61 := x.z k61
  have W := W.trans (Adw.of x)
  have hX : aX e63 = aX d + 32 := hX1
  have hS : aS e63 = aS d + 292273 := hS1.trans (Nat.add_assoc _ _ _)
  have hB : ∀ b c, aK e63 b = (0, c, 0) → aK d b = (0, c, 0) := fun b c q => hB b c (bk_z (by rw [hEe63] at q; exact q))
  have n26 := (x.2.2.2.1 _ _ k25).trans n26
  have k25 := x.f k25
  refine en_putA (fs' := [.ref (aX d + 0), .int 0, .int 0, .ref (aX d + 1), .ref (aX d + 2), .ref (aX d + 3), .ref (aX d + 4), .ref (aX d + 5), .int 0, .int 0, .int 0, .int 0, .int 0, .int 0, .int 0, .ref (aX d + 6), .int 0, .ref (aX d + 7), .int 0, .ref (aX d + 8), .ref (aX d + 9), .int 0, .ref (aX d + 10), .int 0, .ref (aX d + 11), .ref (aX d + 12), .ref (aX d + 13), .ref (aX d + 14), .ref (aX d + 15), .ref (aX d + 16), .ref (aX d + 17), .int 0, .ref (aX d + 18), .ref (aX d + 19), .ref (aX d + 20), .ref (aX d + 21), .ref (aX d + 22), .ref (aX d + 23), .ref (aX d + 24), .int 0, .ref (aX d + 25), .ref (aX d + 26), .ref (aX d + 27), .ref (aX d + 28), .ref (aX d + 29), .ref (aX d + 30), .long 0, .ref (aX d + 31), .null, .null, .null, .null]) (by decide +kernel : u_at kl_169 301 = some (.putfield 107, [12, 47, 3])) hW ha0 hf (Nat.le_of_ble_eq_true rfl) rfl rfl hX (fun h e64 hEe64 hW kq nq hX1 hf1 ha01 y => ?_)
  have hS : aS e64 = aS d + 292273 := by rw [hEe64]; exact hS
  have k1 := (kq _).trans k1
  have n2 := (congrFun nq _).trans n2
  have k3 := (kq _).trans k3
  have n4 := (congrFun nq _).trans n4
  have k5 := (kq _).trans k5
  have n6 := (congrFun nq _).trans n6
  have k7 := (kq _).trans k7
  have n8 := (congrFun nq _).trans n8
  have k9 := (kq _).trans k9
  have n10 := (congrFun nq _).trans n10
  have k11 := (kq _).trans k11
  have n12 := (congrFun nq _).trans n12
  have k13 := (kq _).trans k13
  have n14 := (congrFun nq _).trans n14
  have k15 := (kq _).trans k15
  have n16 := (congrFun nq _).trans n16
  have k17 := (kq _).trans k17
  have n18 := (congrFun nq _).trans n18
  have k19 := (kq _).trans k19
  have n20 := (congrFun nq _).trans n20
  have k21 := (kq _).trans k21
  have n22 := (congrFun nq _).trans n22
  have k23 := (kq _).trans k23
  have n24 := (congrFun nq _).trans n24
  have k27 := (kq _).trans k27
  have n28 := (congrFun nq _).trans n28
  have k29 := (kq _).trans k29
  have n30 := (congrFun nq _).trans n30
  have k31 := (kq _).trans k31
  have n32 := (congrFun nq _).trans n32
  have k33 := (kq _).trans k33
  have n34 := (congrFun nq _).trans n34
  have k35 := (kq _).trans k35
  have n36 := (congrFun nq _).trans n36
  have k37 := (kq _).trans k37
  have n38 := (congrFun nq _).trans n38
  have k39 := (kq _).trans k39
  have n40 := (congrFun nq _).trans n40
  have k41 := (kq _).trans k41
  have n42 := (congrFun nq _).trans n42
  have k43 := (kq _).trans k43
  have n44 := (congrFun nq _).trans n44
  have k45 := (kq _).trans k45
  have n46 := (congrFun nq _).trans n46
  have k47 := (kq _).trans k47
  have n48 := (congrFun nq _).trans n48
  have k49 := (kq _).trans k49
  have n50 := (congrFun nq _).trans n50
  have k51 := (kq _).trans k51
  have n52 := (congrFun nq _).trans n52
  have k53 := (kq _).trans k53
  have n54 := (congrFun nq _).trans n54
  have k55 := (kq _).trans k55
  have n56 := (congrFun nq _).trans n56
  have k57 := (kq _).trans k57
  have n58 := (congrFun nq _).trans n58
  have k59 := (kq _).trans k59
  have n60 := (congrFun nq _).trans n60
  have k61 := (kq _).trans k61
  have n62 := (congrFun nq _).trans n62
  have k63 := (kq _).trans k63
  have n64 := (congrFun nq _).trans n64
  have W := W.trans y
  have hX := hX1
  have hf := hf1
  have ha0 := ha01
  have hB : ∀ b c, aK e64 b = (0, c, 0) → aK d b = (0, c, 0) := fun b c q => hB b c ((kq b).symm.trans q)
  have k25 := (kq _).trans k25
  have n26 := (congrFun nq _).trans n26
  refine en_segs [(304, .aload_n 0, []), (305, .sipush 14720, [])] (by decide +kernel) (y := (308, [some (.ref a0)], [.int 14720, .ref a0], h)) rfl ?_
  refine en_nzO (N := 14720) (by decide +kernel : u_at kl_169 308 = some (.newarray .int, [1])) hW (by decide +kernel) (by decide +kernel) rfl hX hS (fun h e65 hEe65 hW x k65 n66 hX1 hS1 => ?_)
  have hf := (x.w ha0).2.trans hf
  have ha0 := (x.w ha0).1
  have n2 := (x.2.2.2.2.2.2.2 _ _ k1).trans n2
  have k1 := x.z k1
  have n4 := (x.2.2.2.2.2.2.2 _ _ k3).trans n4
  have k3 := x.z k3
  have n6 := (x.2.2.2.2.2.2.2 _ _ k5).trans n6
  have k5 := x.z k5
  have n8 := (x.2.2.2.2.2.2.2 _ _ k7).trans n8
  have k7 := x.z k7
  have n10 := (x.2.2.2.2.2.2.2 _ _ k9).trans n10
  have k9 := x.z k9
  have n12 := (x.2.2.2.2.2.2.2 _ _ k11).trans n12
  have k11 := x.z k11
  have n14 := (x.2.2.2.2.2.2.2 _ _ k13).trans n14
  have k13 := x.z k13
  have n16 := (x.2.2.2.2.2.2.2 _ _ k15).trans n16
  have k15 := x.z k15
  have n18 := (x.2.2.2.2.2.2.2 _ _ k17).trans n18
  have k17 := x.z k17
  have n20 := (x.2.2.2.2.2.2.2 _ _ k19).trans n20
  have k19 := x.z k19
  have n22 := (x.2.2.2.2.2.2.2 _ _ k21).trans n22
  have k21 := x.z k21
  have n24 := (x.2.2.2.2.2.2.2 _ _ k23).trans n24
  have k23 := x.z k23
  have n28 := (x.2.2.2.2.2.2.2 _ _ k27).trans n28
  have k27 := x.z k27
  have n30 := (x.2.2.2.2.2.2.2 _ _ k29).trans n30
  have k29 := x.z k29
  have n32 := (x.2.2.2.2.2.2.2 _ _ k31).trans n32
  have k31 := x.z k31
  have n34 := (x.2.2.2.2.2.2.2 _ _ k33).trans n34
  have k33 := x.z k33
  have n36 := (x.2.2.2.2.2.2.2 _ _ k35).trans n36
  have k35 := x.z k35
  have n38 := (x.2.2.2.2.2.2.2 _ _ k37).trans n38
  have k37 := x.z k37
  have n40 := (x.2.2.2.2.2.2.2 _ _ k39).trans n40
  have k39 := x.z k39
  have n42 := (x.2.2.2.2.2.2.2 _ _ k41).trans n42
  have k41 := x.z k41
  have n44 := (x.2.2.2.2.2.2.2 _ _ k43).trans n44
  have k43 := x.z k43
  have n46 := (x.2.2.2.2.2.2.2 _ _ k45).trans n46
  have k45 := x.z k45
  have n48 := (x.2.2.2.2.2.2.2 _ _ k47).trans n48
  have k47 := x.z k47
  have n50 := (x.2.2.2.2.2.2.2 _ _ k49).trans n50
  have k49 := x.z k49
  have n52 := (x.2.2.2.2.2.2.2 _ _ k51).trans n52
  have k51 := x.z k51
  have n54 := (x.2.2.2.2.2.2.2 _ _ k53).trans n54
  have k53 := x.z k53
  have n56 := (x.2.2.2.2.2.2.2 _ _ k55).trans n56
  have k55 := x.z k55
  have n58 := (x.2.2.2.2.2.2.2 _ _ k57).trans n58
  have k57 := x.z k57
  have n60 := (x.2.2.2.2.2.2.2 _ _ k59).trans n60
  have k59 := x.z k59
  have n62 := (x.2.2.2.2.2.2.2 _ _ k61).trans n62
  have k61 := x.z k61
  have n64 := (x.2.2.2.2.2.2.2 _ _ k63).trans n64
  have k63 := x.z k63
  have W := W.trans (Adw.of x)
  have hX : aX e65 = aX d + 33 := hX1
  have hS : aS e65 = aS d + 306993 := hS1.trans (Nat.add_assoc _ _ _)
  have hB : ∀ b c, aK e65 b = (0, c, 0) → aK d b = (0, c, 0) := fun b c q => hB b c (bk_z (by rw [hEe65] at q; exact q))
  have n26 := (x.2.2.2.1 _ _ k25).trans n26
  have k25 := x.f k25
  refine en_putA (fs' := [.ref (aX d + 0), .int 0, .int 0, .ref (aX d + 1), .ref (aX d + 2), .ref (aX d + 3), .ref (aX d + 4), .ref (aX d + 5), .int 0, .int 0, .int 0, .int 0, .int 0, .int 0, .int 0, .ref (aX d + 6), .int 0, .ref (aX d + 7), .int 0, .ref (aX d + 8), .ref (aX d + 9), .int 0, .ref (aX d + 10), .int 0, .ref (aX d + 11), .ref (aX d + 12), .ref (aX d + 13), .ref (aX d + 14), .ref (aX d + 15), .ref (aX d + 16), .ref (aX d + 17), .int 0, .ref (aX d + 18), .ref (aX d + 19), .ref (aX d + 20), .ref (aX d + 21), .ref (aX d + 22), .ref (aX d + 23), .ref (aX d + 24), .int 0, .ref (aX d + 25), .ref (aX d + 26), .ref (aX d + 27), .ref (aX d + 28), .ref (aX d + 29), .ref (aX d + 30), .long 0, .ref (aX d + 31), .ref (aX d + 32), .null, .null, .null]) (by decide +kernel : u_at kl_169 310 = some (.putfield 110, [12, 48, 3])) hW ha0 hf (Nat.le_of_ble_eq_true rfl) rfl rfl hX (fun h e66 hEe66 hW kq nq hX1 hf1 ha01 y => ?_)
  have hS : aS e66 = aS d + 306993 := by rw [hEe66]; exact hS
  have k1 := (kq _).trans k1
  have n2 := (congrFun nq _).trans n2
  have k3 := (kq _).trans k3
  have n4 := (congrFun nq _).trans n4
  have k5 := (kq _).trans k5
  have n6 := (congrFun nq _).trans n6
  have k7 := (kq _).trans k7
  have n8 := (congrFun nq _).trans n8
  have k9 := (kq _).trans k9
  have n10 := (congrFun nq _).trans n10
  have k11 := (kq _).trans k11
  have n12 := (congrFun nq _).trans n12
  have k13 := (kq _).trans k13
  have n14 := (congrFun nq _).trans n14
  have k15 := (kq _).trans k15
  have n16 := (congrFun nq _).trans n16
  have k17 := (kq _).trans k17
  have n18 := (congrFun nq _).trans n18
  have k19 := (kq _).trans k19
  have n20 := (congrFun nq _).trans n20
  have k21 := (kq _).trans k21
  have n22 := (congrFun nq _).trans n22
  have k23 := (kq _).trans k23
  have n24 := (congrFun nq _).trans n24
  have k27 := (kq _).trans k27
  have n28 := (congrFun nq _).trans n28
  have k29 := (kq _).trans k29
  have n30 := (congrFun nq _).trans n30
  have k31 := (kq _).trans k31
  have n32 := (congrFun nq _).trans n32
  have k33 := (kq _).trans k33
  have n34 := (congrFun nq _).trans n34
  have k35 := (kq _).trans k35
  have n36 := (congrFun nq _).trans n36
  have k37 := (kq _).trans k37
  have n38 := (congrFun nq _).trans n38
  have k39 := (kq _).trans k39
  have n40 := (congrFun nq _).trans n40
  have k41 := (kq _).trans k41
  have n42 := (congrFun nq _).trans n42
  have k43 := (kq _).trans k43
  have n44 := (congrFun nq _).trans n44
  have k45 := (kq _).trans k45
  have n46 := (congrFun nq _).trans n46
  have k47 := (kq _).trans k47
  have n48 := (congrFun nq _).trans n48
  have k49 := (kq _).trans k49
  have n50 := (congrFun nq _).trans n50
  have k51 := (kq _).trans k51
  have n52 := (congrFun nq _).trans n52
  have k53 := (kq _).trans k53
  have n54 := (congrFun nq _).trans n54
  have k55 := (kq _).trans k55
  have n56 := (congrFun nq _).trans n56
  have k57 := (kq _).trans k57
  have n58 := (congrFun nq _).trans n58
  have k59 := (kq _).trans k59
  have n60 := (congrFun nq _).trans n60
  have k61 := (kq _).trans k61
  have n62 := (congrFun nq _).trans n62
  have k63 := (kq _).trans k63
  have n64 := (congrFun nq _).trans n64
  have k65 := (kq _).trans k65
  have n66 := (congrFun nq _).trans n66
  have W := W.trans y
  have hX := hX1
  have hf := hf1
  have ha0 := ha01
  have hB : ∀ b c, aK e66 b = (0, c, 0) → aK d b = (0, c, 0) := fun b c q => hB b c ((kq b).symm.trans q)
  have k25 := (kq _).trans k25
  have n26 := (congrFun nq _).trans n26
  refine en_segs [(313, .aload_n 0, []), (314, .iconst 4, [])] (by decide +kernel) (y := (315, [some (.ref a0)], [.int 4, .ref a0], h)) rfl ?_
  refine en_nzO (N := 4) (by decide +kernel : u_at kl_169 315 = some (.newarray .int, [1])) hW (by decide +kernel) (by decide +kernel) rfl hX hS (fun h e67 hEe67 hW x k67 n68 hX1 hS1 => ?_)
  have hf := (x.w ha0).2.trans hf
  have ha0 := (x.w ha0).1
  have n2 := (x.2.2.2.2.2.2.2 _ _ k1).trans n2
  have k1 := x.z k1
  have n4 := (x.2.2.2.2.2.2.2 _ _ k3).trans n4
  have k3 := x.z k3
  have n6 := (x.2.2.2.2.2.2.2 _ _ k5).trans n6
  have k5 := x.z k5
  have n8 := (x.2.2.2.2.2.2.2 _ _ k7).trans n8
  have k7 := x.z k7
  have n10 := (x.2.2.2.2.2.2.2 _ _ k9).trans n10
  have k9 := x.z k9
  have n12 := (x.2.2.2.2.2.2.2 _ _ k11).trans n12
  have k11 := x.z k11
  have n14 := (x.2.2.2.2.2.2.2 _ _ k13).trans n14
  have k13 := x.z k13
  have n16 := (x.2.2.2.2.2.2.2 _ _ k15).trans n16
  have k15 := x.z k15
  have n18 := (x.2.2.2.2.2.2.2 _ _ k17).trans n18
  have k17 := x.z k17
  have n20 := (x.2.2.2.2.2.2.2 _ _ k19).trans n20
  have k19 := x.z k19
  have n22 := (x.2.2.2.2.2.2.2 _ _ k21).trans n22
  have k21 := x.z k21
  have n24 := (x.2.2.2.2.2.2.2 _ _ k23).trans n24
  have k23 := x.z k23
  have n28 := (x.2.2.2.2.2.2.2 _ _ k27).trans n28
  have k27 := x.z k27
  have n30 := (x.2.2.2.2.2.2.2 _ _ k29).trans n30
  have k29 := x.z k29
  have n32 := (x.2.2.2.2.2.2.2 _ _ k31).trans n32
  have k31 := x.z k31
  have n34 := (x.2.2.2.2.2.2.2 _ _ k33).trans n34
  have k33 := x.z k33
  have n36 := (x.2.2.2.2.2.2.2 _ _ k35).trans n36
  have k35 := x.z k35
  have n38 := (x.2.2.2.2.2.2.2 _ _ k37).trans n38
  have k37 := x.z k37
  have n40 := (x.2.2.2.2.2.2.2 _ _ k39).trans n40
  have k39 := x.z k39
  have n42 := (x.2.2.2.2.2.2.2 _ _ k41).trans n42
  have k41 := x.z k41
  have n44 := (x.2.2.2.2.2.2.2 _ _ k43).trans n44
  have k43 := x.z k43
  have n46 := (x.2.2.2.2.2.2.2 _ _ k45).trans n46
  have k45 := x.z k45
  have n48 := (x.2.2.2.2.2.2.2 _ _ k47).trans n48
  have k47 := x.z k47
  have n50 := (x.2.2.2.2.2.2.2 _ _ k49).trans n50
  have k49 := x.z k49
  have n52 := (x.2.2.2.2.2.2.2 _ _ k51).trans n52
  have k51 := x.z k51
  have n54 := (x.2.2.2.2.2.2.2 _ _ k53).trans n54
  have k53 := x.z k53
  have n56 := (x.2.2.2.2.2.2.2 _ _ k55).trans n56
  have k55 := x.z k55
  have n58 := (x.2.2.2.2.2.2.2 _ _ k57).trans n58
  have k57 := x.z k57
  have n60 := (x.2.2.2.2.2.2.2 _ _ k59).trans n60
  have k59 := x.z k59
  have n62 := (x.2.2.2.2.2.2.2 _ _ k61).trans n62
  have k61 := x.z k61
  have n64 := (x.2.2.2.2.2.2.2 _ _ k63).trans n64
  have k63 := x.z k63
  have n66 := (x.2.2.2.2.2.2.2 _ _ k65).trans n66
  have k65 := x.z k65
  have W := W.trans (Adw.of x)
  have hX : aX e67 = aX d + 34 := hX1
  have hS : aS e67 = aS d + 306997 := hS1.trans (Nat.add_assoc _ _ _)
  have hB : ∀ b c, aK e67 b = (0, c, 0) → aK d b = (0, c, 0) := fun b c q => hB b c (bk_z (by rw [hEe67] at q; exact q))
  have n26 := (x.2.2.2.1 _ _ k25).trans n26
  have k25 := x.f k25
  refine en_putA (fs' := [.ref (aX d + 0), .int 0, .int 0, .ref (aX d + 1), .ref (aX d + 2), .ref (aX d + 3), .ref (aX d + 4), .ref (aX d + 5), .int 0, .int 0, .int 0, .int 0, .int 0, .int 0, .int 0, .ref (aX d + 6), .int 0, .ref (aX d + 7), .int 0, .ref (aX d + 8), .ref (aX d + 9), .int 0, .ref (aX d + 10), .int 0, .ref (aX d + 11), .ref (aX d + 12), .ref (aX d + 13), .ref (aX d + 14), .ref (aX d + 15), .ref (aX d + 16), .ref (aX d + 17), .int 0, .ref (aX d + 18), .ref (aX d + 19), .ref (aX d + 20), .ref (aX d + 21), .ref (aX d + 22), .ref (aX d + 23), .ref (aX d + 24), .int 0, .ref (aX d + 25), .ref (aX d + 26), .ref (aX d + 27), .ref (aX d + 28), .ref (aX d + 29), .ref (aX d + 30), .long 0, .ref (aX d + 31), .ref (aX d + 32), .ref (aX d + 33), .null, .null]) (by decide +kernel : u_at kl_169 317 = some (.putfield 113, [12, 49, 3])) hW ha0 hf (Nat.le_of_ble_eq_true rfl) rfl rfl hX (fun h e68 hEe68 hW kq nq hX1 hf1 ha01 y => ?_)
  have hS : aS e68 = aS d + 306997 := by rw [hEe68]; exact hS
  have k1 := (kq _).trans k1
  have n2 := (congrFun nq _).trans n2
  have k3 := (kq _).trans k3
  have n4 := (congrFun nq _).trans n4
  have k5 := (kq _).trans k5
  have n6 := (congrFun nq _).trans n6
  have k7 := (kq _).trans k7
  have n8 := (congrFun nq _).trans n8
  have k9 := (kq _).trans k9
  have n10 := (congrFun nq _).trans n10
  have k11 := (kq _).trans k11
  have n12 := (congrFun nq _).trans n12
  have k13 := (kq _).trans k13
  have n14 := (congrFun nq _).trans n14
  have k15 := (kq _).trans k15
  have n16 := (congrFun nq _).trans n16
  have k17 := (kq _).trans k17
  have n18 := (congrFun nq _).trans n18
  have k19 := (kq _).trans k19
  have n20 := (congrFun nq _).trans n20
  have k21 := (kq _).trans k21
  have n22 := (congrFun nq _).trans n22
  have k23 := (kq _).trans k23
  have n24 := (congrFun nq _).trans n24
  have k27 := (kq _).trans k27
  have n28 := (congrFun nq _).trans n28
  have k29 := (kq _).trans k29
  have n30 := (congrFun nq _).trans n30
  have k31 := (kq _).trans k31
  have n32 := (congrFun nq _).trans n32
  have k33 := (kq _).trans k33
  have n34 := (congrFun nq _).trans n34
  have k35 := (kq _).trans k35
  have n36 := (congrFun nq _).trans n36
  have k37 := (kq _).trans k37
  have n38 := (congrFun nq _).trans n38
  have k39 := (kq _).trans k39
  have n40 := (congrFun nq _).trans n40
  have k41 := (kq _).trans k41
  have n42 := (congrFun nq _).trans n42
  have k43 := (kq _).trans k43
  have n44 := (congrFun nq _).trans n44
  have k45 := (kq _).trans k45
  have n46 := (congrFun nq _).trans n46
  have k47 := (kq _).trans k47
  have n48 := (congrFun nq _).trans n48
  have k49 := (kq _).trans k49
  have n50 := (congrFun nq _).trans n50
  have k51 := (kq _).trans k51
  have n52 := (congrFun nq _).trans n52
  have k53 := (kq _).trans k53
  have n54 := (congrFun nq _).trans n54
  have k55 := (kq _).trans k55
  have n56 := (congrFun nq _).trans n56
  have k57 := (kq _).trans k57
  have n58 := (congrFun nq _).trans n58
  have k59 := (kq _).trans k59
  have n60 := (congrFun nq _).trans n60
  have k61 := (kq _).trans k61
  have n62 := (congrFun nq _).trans n62
  have k63 := (kq _).trans k63
  have n64 := (congrFun nq _).trans n64
  have k65 := (kq _).trans k65
  have n66 := (congrFun nq _).trans n66
  have k67 := (kq _).trans k67
  have n68 := (congrFun nq _).trans n68
  have W := W.trans y
  have hX := hX1
  have hf := hf1
  have ha0 := ha01
  have hB : ∀ b c, aK e68 b = (0, c, 0) → aK d b = (0, c, 0) := fun b c q => hB b c ((kq b).symm.trans q)
  have k25 := (kq _).trans k25
  have n26 := (congrFun nq _).trans n26
  refine en_segs [(320, .aload_n 0, []), (321, .iconst 4, [])] (by decide +kernel) (y := (322, [some (.ref a0)], [.int 4, .ref a0], h)) rfl ?_
  refine en_nzO (N := 4) (by decide +kernel : u_at kl_169 322 = some (.newarray .int, [1])) hW (by decide +kernel) (by decide +kernel) rfl hX hS (fun h e69 hEe69 hW x k69 n70 hX1 hS1 => ?_)
  have hf := (x.w ha0).2.trans hf
  have ha0 := (x.w ha0).1
  have n2 := (x.2.2.2.2.2.2.2 _ _ k1).trans n2
  have k1 := x.z k1
  have n4 := (x.2.2.2.2.2.2.2 _ _ k3).trans n4
  have k3 := x.z k3
  have n6 := (x.2.2.2.2.2.2.2 _ _ k5).trans n6
  have k5 := x.z k5
  have n8 := (x.2.2.2.2.2.2.2 _ _ k7).trans n8
  have k7 := x.z k7
  have n10 := (x.2.2.2.2.2.2.2 _ _ k9).trans n10
  have k9 := x.z k9
  have n12 := (x.2.2.2.2.2.2.2 _ _ k11).trans n12
  have k11 := x.z k11
  have n14 := (x.2.2.2.2.2.2.2 _ _ k13).trans n14
  have k13 := x.z k13
  have n16 := (x.2.2.2.2.2.2.2 _ _ k15).trans n16
  have k15 := x.z k15
  have n18 := (x.2.2.2.2.2.2.2 _ _ k17).trans n18
  have k17 := x.z k17
  have n20 := (x.2.2.2.2.2.2.2 _ _ k19).trans n20
  have k19 := x.z k19
  have n22 := (x.2.2.2.2.2.2.2 _ _ k21).trans n22
  have k21 := x.z k21
  have n24 := (x.2.2.2.2.2.2.2 _ _ k23).trans n24
  have k23 := x.z k23
  have n28 := (x.2.2.2.2.2.2.2 _ _ k27).trans n28
  have k27 := x.z k27
  have n30 := (x.2.2.2.2.2.2.2 _ _ k29).trans n30
  have k29 := x.z k29
  have n32 := (x.2.2.2.2.2.2.2 _ _ k31).trans n32
  have k31 := x.z k31
  have n34 := (x.2.2.2.2.2.2.2 _ _ k33).trans n34
  have k33 := x.z k33
  have n36 := (x.2.2.2.2.2.2.2 _ _ k35).trans n36
  have k35 := x.z k35
  have n38 := (x.2.2.2.2.2.2.2 _ _ k37).trans n38
  have k37 := x.z k37
  have n40 := (x.2.2.2.2.2.2.2 _ _ k39).trans n40
  have k39 := x.z k39
  have n42 := (x.2.2.2.2.2.2.2 _ _ k41).trans n42
  have k41 := x.z k41
  have n44 := (x.2.2.2.2.2.2.2 _ _ k43).trans n44
  have k43 := x.z k43
  have n46 := (x.2.2.2.2.2.2.2 _ _ k45).trans n46
  have k45 := x.z k45
  have n48 := (x.2.2.2.2.2.2.2 _ _ k47).trans n48
  have k47 := x.z k47
  have n50 := (x.2.2.2.2.2.2.2 _ _ k49).trans n50
  have k49 := x.z k49
  have n52 := (x.2.2.2.2.2.2.2 _ _ k51).trans n52
  have k51 := x.z k51
  have n54 := (x.2.2.2.2.2.2.2 _ _ k53).trans n54
  have k53 := x.z k53
  have n56 := (x.2.2.2.2.2.2.2 _ _ k55).trans n56
  have k55 := x.z k55
  have n58 := (x.2.2.2.2.2.2.2 _ _ k57).trans n58
  have k57 := x.z k57
  have n60 := (x.2.2.2.2.2.2.2 _ _ k59).trans n60
  have k59 := x.z k59
  have n62 := (x.2.2.2.2.2.2.2 _ _ k61).trans n62
  have k61 := x.z k61
  have n64 := (x.2.2.2.2.2.2.2 _ _ k63).trans n64
  have k63 := x.z k63
  have n66 := (x.2.2.2.2.2.2.2 _ _ k65).trans n66
  have k65 := x.z k65
  have n68 := (x.2.2.2.2.2.2.2 _ _ k67).trans n68
  have k67 := x.z k67
  have W := W.trans (Adw.of x)
  have hX : aX e69 = aX d + 35 := hX1
  have hS : aS e69 = aS d + 307001 := hS1.trans (Nat.add_assoc _ _ _)
  have hB : ∀ b c, aK e69 b = (0, c, 0) → aK d b = (0, c, 0) := fun b c q => hB b c (bk_z (by rw [hEe69] at q; exact q))
  have n26 := (x.2.2.2.1 _ _ k25).trans n26
  have k25 := x.f k25
  refine en_putA (fs' := [.ref (aX d + 0), .int 0, .int 0, .ref (aX d + 1), .ref (aX d + 2), .ref (aX d + 3), .ref (aX d + 4), .ref (aX d + 5), .int 0, .int 0, .int 0, .int 0, .int 0, .int 0, .int 0, .ref (aX d + 6), .int 0, .ref (aX d + 7), .int 0, .ref (aX d + 8), .ref (aX d + 9), .int 0, .ref (aX d + 10), .int 0, .ref (aX d + 11), .ref (aX d + 12), .ref (aX d + 13), .ref (aX d + 14), .ref (aX d + 15), .ref (aX d + 16), .ref (aX d + 17), .int 0, .ref (aX d + 18), .ref (aX d + 19), .ref (aX d + 20), .ref (aX d + 21), .ref (aX d + 22), .ref (aX d + 23), .ref (aX d + 24), .int 0, .ref (aX d + 25), .ref (aX d + 26), .ref (aX d + 27), .ref (aX d + 28), .ref (aX d + 29), .ref (aX d + 30), .long 0, .ref (aX d + 31), .ref (aX d + 32), .ref (aX d + 33), .ref (aX d + 34), .null]) (by decide +kernel : u_at kl_169 324 = some (.putfield 116, [12, 50, 3])) hW ha0 hf (Nat.le_of_ble_eq_true rfl) rfl rfl hX (fun h e70 hEe70 hW kq nq hX1 hf1 ha01 y => ?_)
  have hS : aS e70 = aS d + 307001 := by rw [hEe70]; exact hS
  have k1 := (kq _).trans k1
  have n2 := (congrFun nq _).trans n2
  have k3 := (kq _).trans k3
  have n4 := (congrFun nq _).trans n4
  have k5 := (kq _).trans k5
  have n6 := (congrFun nq _).trans n6
  have k7 := (kq _).trans k7
  have n8 := (congrFun nq _).trans n8
  have k9 := (kq _).trans k9
  have n10 := (congrFun nq _).trans n10
  have k11 := (kq _).trans k11
  have n12 := (congrFun nq _).trans n12
  have k13 := (kq _).trans k13
  have n14 := (congrFun nq _).trans n14
  have k15 := (kq _).trans k15
  have n16 := (congrFun nq _).trans n16
  have k17 := (kq _).trans k17
  have n18 := (congrFun nq _).trans n18
  have k19 := (kq _).trans k19
  have n20 := (congrFun nq _).trans n20
  have k21 := (kq _).trans k21
  have n22 := (congrFun nq _).trans n22
  have k23 := (kq _).trans k23
  have n24 := (congrFun nq _).trans n24
  have k27 := (kq _).trans k27
  have n28 := (congrFun nq _).trans n28
  have k29 := (kq _).trans k29
  have n30 := (congrFun nq _).trans n30
  have k31 := (kq _).trans k31
  have n32 := (congrFun nq _).trans n32
  have k33 := (kq _).trans k33
  have n34 := (congrFun nq _).trans n34
  have k35 := (kq _).trans k35
  have n36 := (congrFun nq _).trans n36
  have k37 := (kq _).trans k37
  have n38 := (congrFun nq _).trans n38
  have k39 := (kq _).trans k39
  have n40 := (congrFun nq _).trans n40
  have k41 := (kq _).trans k41
  have n42 := (congrFun nq _).trans n42
  have k43 := (kq _).trans k43
  have n44 := (congrFun nq _).trans n44
  have k45 := (kq _).trans k45
  have n46 := (congrFun nq _).trans n46
  have k47 := (kq _).trans k47
  have n48 := (congrFun nq _).trans n48
  have k49 := (kq _).trans k49
  have n50 := (congrFun nq _).trans n50
  have k51 := (kq _).trans k51
  have n52 := (congrFun nq _).trans n52
  have k53 := (kq _).trans k53
  have n54 := (congrFun nq _).trans n54
  have k55 := (kq _).trans k55
  have n56 := (congrFun nq _).trans n56
  have k57 := (kq _).trans k57
  have n58 := (congrFun nq _).trans n58
  have k59 := (kq _).trans k59
  have n60 := (congrFun nq _).trans n60
  have k61 := (kq _).trans k61
  have n62 := (congrFun nq _).trans n62
  have k63 := (kq _).trans k63
  have n64 := (congrFun nq _).trans n64
  have k65 := (kq _).trans k65
  have n66 := (congrFun nq _).trans n66
  have k67 := (kq _).trans k67
  have n68 := (congrFun nq _).trans n68
  have k69 := (kq _).trans k69
  have n70 := (congrFun nq _).trans n70
  have W := W.trans y
  have hX := hX1
  have hf := hf1
  have ha0 := ha01
  have hB : ∀ b c, aK e70 b = (0, c, 0) → aK d b = (0, c, 0) := fun b c q => hB b c ((kq b).symm.trans q)
  have k25 := (kq _).trans k25
  have n26 := (congrFun nq _).trans n26
  refine en_segs [(327, .aload_n 0, []), (328, .iconst 4, [])] (by decide +kernel) (y := (329, [some (.ref a0)], [.int 4, .ref a0], h)) rfl ?_
  refine en_nzO (N := 4) (by decide +kernel : u_at kl_169 329 = some (.newarray .boolean, [3])) hW (by decide +kernel) (by decide +kernel) rfl hX hS (fun h e71 hEe71 hW x k71 n72 hX1 hS1 => ?_)
  have hf := (x.w ha0).2.trans hf
  have ha0 := (x.w ha0).1
  have n2 := (x.2.2.2.2.2.2.2 _ _ k1).trans n2
  have k1 := x.z k1
  have n4 := (x.2.2.2.2.2.2.2 _ _ k3).trans n4
  have k3 := x.z k3
  have n6 := (x.2.2.2.2.2.2.2 _ _ k5).trans n6
  have k5 := x.z k5
  have n8 := (x.2.2.2.2.2.2.2 _ _ k7).trans n8
  have k7 := x.z k7
  have n10 := (x.2.2.2.2.2.2.2 _ _ k9).trans n10
  have k9 := x.z k9
  have n12 := (x.2.2.2.2.2.2.2 _ _ k11).trans n12
  have k11 := x.z k11
  have n14 := (x.2.2.2.2.2.2.2 _ _ k13).trans n14
  have k13 := x.z k13
  have n16 := (x.2.2.2.2.2.2.2 _ _ k15).trans n16
  have k15 := x.z k15
  have n18 := (x.2.2.2.2.2.2.2 _ _ k17).trans n18
  have k17 := x.z k17
  have n20 := (x.2.2.2.2.2.2.2 _ _ k19).trans n20
  have k19 := x.z k19
  have n22 := (x.2.2.2.2.2.2.2 _ _ k21).trans n22
  have k21 := x.z k21
  have n24 := (x.2.2.2.2.2.2.2 _ _ k23).trans n24
  have k23 := x.z k23
  have n28 := (x.2.2.2.2.2.2.2 _ _ k27).trans n28
  have k27 := x.z k27
  have n30 := (x.2.2.2.2.2.2.2 _ _ k29).trans n30
  have k29 := x.z k29
  have n32 := (x.2.2.2.2.2.2.2 _ _ k31).trans n32
  have k31 := x.z k31
  have n34 := (x.2.2.2.2.2.2.2 _ _ k33).trans n34
  have k33 := x.z k33
  have n36 := (x.2.2.2.2.2.2.2 _ _ k35).trans n36
  have k35 := x.z k35
  have n38 := (x.2.2.2.2.2.2.2 _ _ k37).trans n38
  have k37 := x.z k37
  have n40 := (x.2.2.2.2.2.2.2 _ _ k39).trans n40
  have k39 := x.z k39
  have n42 := (x.2.2.2.2.2.2.2 _ _ k41).trans n42
  have k41 := x.z k41
  have n44 := (x.2.2.2.2.2.2.2 _ _ k43).trans n44
  have k43 := x.z k43
  have n46 := (x.2.2.2.2.2.2.2 _ _ k45).trans n46
  have k45 := x.z k45
  have n48 := (x.2.2.2.2.2.2.2 _ _ k47).trans n48
  have k47 := x.z k47
  have n50 := (x.2.2.2.2.2.2.2 _ _ k49).trans n50
  have k49 := x.z k49
  have n52 := (x.2.2.2.2.2.2.2 _ _ k51).trans n52
  have k51 := x.z k51
  have n54 := (x.2.2.2.2.2.2.2 _ _ k53).trans n54
  have k53 := x.z k53
  have n56 := (x.2.2.2.2.2.2.2 _ _ k55).trans n56
  have k55 := x.z k55
  have n58 := (x.2.2.2.2.2.2.2 _ _ k57).trans n58
  have k57 := x.z k57
  have n60 := (x.2.2.2.2.2.2.2 _ _ k59).trans n60
  have k59 := x.z k59
  have n62 := (x.2.2.2.2.2.2.2 _ _ k61).trans n62
  have k61 := x.z k61
  have n64 := (x.2.2.2.2.2.2.2 _ _ k63).trans n64
  have k63 := x.z k63
  have n66 := (x.2.2.2.2.2.2.2 _ _ k65).trans n66
  have k65 := x.z k65
  have n68 := (x.2.2.2.2.2.2.2 _ _ k67).trans n68
  have k67 := x.z k67
  have n70 := (x.2.2.2.2.2.2.2 _ _ k69).trans n70
  have k69 := x.z k69
  have W := W.trans (Adw.of x)
  have hX : aX e71 = aX d + 36 := hX1
  have hS : aS e71 = aS d + 307005 := hS1.trans (Nat.add_assoc _ _ _)
  have hB : ∀ b c, aK e71 b = (0, c, 0) → aK d b = (0, c, 0) := fun b c q => hB b c (bk_z (by rw [hEe71] at q; exact q))
  have n26 := (x.2.2.2.1 _ _ k25).trans n26
  have k25 := x.f k25
  refine en_putA (fs' := [.ref (aX d + 0), .int 0, .int 0, .ref (aX d + 1), .ref (aX d + 2), .ref (aX d + 3), .ref (aX d + 4), .ref (aX d + 5), .int 0, .int 0, .int 0, .int 0, .int 0, .int 0, .int 0, .ref (aX d + 6), .int 0, .ref (aX d + 7), .int 0, .ref (aX d + 8), .ref (aX d + 9), .int 0, .ref (aX d + 10), .int 0, .ref (aX d + 11), .ref (aX d + 12), .ref (aX d + 13), .ref (aX d + 14), .ref (aX d + 15), .ref (aX d + 16), .ref (aX d + 17), .int 0, .ref (aX d + 18), .ref (aX d + 19), .ref (aX d + 20), .ref (aX d + 21), .ref (aX d + 22), .ref (aX d + 23), .ref (aX d + 24), .int 0, .ref (aX d + 25), .ref (aX d + 26), .ref (aX d + 27), .ref (aX d + 28), .ref (aX d + 29), .ref (aX d + 30), .long 0, .ref (aX d + 31), .ref (aX d + 32), .ref (aX d + 33), .ref (aX d + 34), .ref (aX d + 35)]) (by decide +kernel : u_at kl_169 331 = some (.putfield 119, [12, 51, 3])) hW ha0 hf (Nat.le_of_ble_eq_true rfl) rfl rfl hX (fun h e72 hEe72 hW kq nq hX1 hf1 ha01 y => ?_)
  have hS : aS e72 = aS d + 307005 := by rw [hEe72]; exact hS
  have k1 := (kq _).trans k1
  have n2 := (congrFun nq _).trans n2
  have k3 := (kq _).trans k3
  have n4 := (congrFun nq _).trans n4
  have k5 := (kq _).trans k5
  have n6 := (congrFun nq _).trans n6
  have k7 := (kq _).trans k7
  have n8 := (congrFun nq _).trans n8
  have k9 := (kq _).trans k9
  have n10 := (congrFun nq _).trans n10
  have k11 := (kq _).trans k11
  have n12 := (congrFun nq _).trans n12
  have k13 := (kq _).trans k13
  have n14 := (congrFun nq _).trans n14
  have k15 := (kq _).trans k15
  have n16 := (congrFun nq _).trans n16
  have k17 := (kq _).trans k17
  have n18 := (congrFun nq _).trans n18
  have k19 := (kq _).trans k19
  have n20 := (congrFun nq _).trans n20
  have k21 := (kq _).trans k21
  have n22 := (congrFun nq _).trans n22
  have k23 := (kq _).trans k23
  have n24 := (congrFun nq _).trans n24
  have k27 := (kq _).trans k27
  have n28 := (congrFun nq _).trans n28
  have k29 := (kq _).trans k29
  have n30 := (congrFun nq _).trans n30
  have k31 := (kq _).trans k31
  have n32 := (congrFun nq _).trans n32
  have k33 := (kq _).trans k33
  have n34 := (congrFun nq _).trans n34
  have k35 := (kq _).trans k35
  have n36 := (congrFun nq _).trans n36
  have k37 := (kq _).trans k37
  have n38 := (congrFun nq _).trans n38
  have k39 := (kq _).trans k39
  have n40 := (congrFun nq _).trans n40
  have k41 := (kq _).trans k41
  have n42 := (congrFun nq _).trans n42
  have k43 := (kq _).trans k43
  have n44 := (congrFun nq _).trans n44
  have k45 := (kq _).trans k45
  have n46 := (congrFun nq _).trans n46
  have k47 := (kq _).trans k47
  have n48 := (congrFun nq _).trans n48
  have k49 := (kq _).trans k49
  have n50 := (congrFun nq _).trans n50
  have k51 := (kq _).trans k51
  have n52 := (congrFun nq _).trans n52
  have k53 := (kq _).trans k53
  have n54 := (congrFun nq _).trans n54
  have k55 := (kq _).trans k55
  have n56 := (congrFun nq _).trans n56
  have k57 := (kq _).trans k57
  have n58 := (congrFun nq _).trans n58
  have k59 := (kq _).trans k59
  have n60 := (congrFun nq _).trans n60
  have k61 := (kq _).trans k61
  have n62 := (congrFun nq _).trans n62
  have k63 := (kq _).trans k63
  have n64 := (congrFun nq _).trans n64
  have k65 := (kq _).trans k65
  have n66 := (congrFun nq _).trans n66
  have k67 := (kq _).trans k67
  have n68 := (congrFun nq _).trans n68
  have k69 := (kq _).trans k69
  have n70 := (congrFun nq _).trans n70
  have k71 := (kq _).trans k71
  have n72 := (congrFun nq _).trans n72
  have W := W.trans y
  have hX := hX1
  have hf := hf1
  have ha0 := ha01
  have hB : ∀ b c, aK e72 b = (0, c, 0) → aK d b = (0, c, 0) := fun b c q => hB b c ((kq b).symm.trans q)
  have k25 := (kq _).trans k25
  have n26 := (congrFun nq _).trans n26
  have t2 : ∀ b c k, aK e72 b = (0, c, 0) → k < nsl c → (sd c k).1 = 4 → cR (wg c (mkw c0 c1 c2 c3 c4 c5 c6 c7 c8 c9 c10 c11 c12 y6)) k b < aX d := fun b c k q1 q2 q3 => by
    have q1 := hB b c q1
    have hw := hd0.2.2.2.1 b c q1 k q2
    have e1 : cR (wg c (mkw c0 c1 c2 c3 c4 c5 c6 c7 c8 c9 c10 c11 c12 y6)) k b = cR (wg c (mkw c0 c1 c2 c3 c4 c5 c6 c7 c8 c9 c10 c11 c12 c13)) k b := by
      have := (hd0.2.2.2.2.1 b c 0 q1).2
      match c, this with
      | 0, _ => rfl
      | 1, _ => rfl
      | 2, _ => rfl
      | 3, _ => rfl
      | 4, _ => rfl
      | 5, _ => rfl
      | 6, _ => rfl
      | 7, _ => rfl
      | 8, _ => rfl
      | 9, _ => rfl
      | 10, _ => rfl
      | 11, _ => rfl
      | 12, _ => rfl
      | c + 13, hc => exact absurd hc (Nat.not_lt.mpr (Nat.le_add_left _ _))
    rw [e1]
    unfold wfs at hw
    split at hw
    · rename_i e; rw [e] at q3; cases q3
    · rename_i e; rw [e] at q3; cases q3
    · exact hw_old hd0 hw (show (2 : Nat) ≠ 9 by decide)
    · rename_i e; rw [e] at q3; cases q3
    · rename_i e1 e2 e3 e4; exact absurd q3 (by rcases hs : sd c k with ⟨i, j, m⟩; intro z; simp only at z; subst z; exact e3 _ _ hs)
  have WO := own_w (c := 12) (X := aX d) (l := l12) hd0 (Nat.le_refl _) W
  have hO : HW (mkw c0 c1 c2 c3 c4 c5 c6 c7 c8 c9 c10 c11 (sA (zat c12 a0) 25 a0 (cA y6 0 (aX d + 12))) y6) (own e72 12 a0 (aX d) l12) h := by
    have zA : ∀ k, k ≠ 25 → cA (sA (zat c12 a0) 25 a0 (cA y6 0 (aX d + 12))) k a0 = fun _ => 0 := fun k hk => by simp [sA, zat, cI, cJ, cR, cA, cB, cQ, up2, hk]
    have zB : ∀ k, cB (sA (zat c12 a0) 25 a0 (cA y6 0 (aX d + 12))) k a0 = fun _ => 0 := fun k => by simp [sA, zat, cI, cJ, cR, cA, cB, cQ, up2]
    have zI : ∀ k, cI (sA (zat c12 a0) 25 a0 (cA y6 0 (aX d + 12))) k a0 = 0 := fun k => by simp [sA, zat, cI, cJ, cR, cA, cB, cQ, up2]
    have zJ : ∀ k, cJ (sA (zat c12 a0) 25 a0 (cA y6 0 (aX d + 12))) k a0 = 0 := fun k => by simp [sA, zat, cI, cJ, cR, cA, cB, cQ, up2]
    refine hw_own3 (c := 12) (a := a0) (X := aX d) (p := aX d + 12) (l := l12) (x := (sA (zat c12 a0) 25 a0 (cA y6 0 (aX d + 12)))) hW (by decide) ha0 l12_ok (fun i k e hi => ?_) (fun i k e hi => ?_) (fun k b g => ?_) (fun k => ?_) ?_ (fun k hk h3 => ?_) t2
    · have hi : i ≠ 12 := fun q => hi (by rw [q])
      rcases i with _ | _ | _ | _ | _ | _ | _ | _ | _ | _ | _ | _ | _ | _ | _ | _ | _ | _ | _ | _ | _ | _ | _ | _ | _ | _ | _ | _ | _ | _ | _ | _ | _ | _ | _ | _ | i
      · cases e; exact ⟨k1, n2, zA _ (by decide), zB _⟩
      · cases e; exact ⟨k3, n4, zA _ (by decide), zB _⟩
      · cases e; exact ⟨k5, n6, zA _ (by decide), zB _⟩
      · cases e; exact ⟨k7, n8, zA _ (by decide), zB _⟩
      · cases e; exact ⟨k9, n10, zA _ (by decide), zB _⟩
      · cases e; exact ⟨k11, n12, zA _ (by decide), zB _⟩
      · cases e; exact ⟨k13, n14, zA _ (by decide), zB _⟩
      · cases e; exact ⟨k15, n16, zA _ (by decide), zB _⟩
      · cases e; exact ⟨k17, n18, zA _ (by decide), zB _⟩
      · cases e; exact ⟨k19, n20, zA _ (by decide), zB _⟩
      · cases e; exact ⟨k21, n22, zA _ (by decide), zB _⟩
      · cases e; exact ⟨k23, n24, zA _ (by decide), zB _⟩
      · exact absurd rfl hi
      · cases e; exact ⟨k27, n28, zA _ (by decide), zB _⟩
      · cases e; exact ⟨k29, n30, zA _ (by decide), zB _⟩
      · cases e; exact ⟨k31, n32, zA _ (by decide), zB _⟩
      · cases e; exact ⟨k33, n34, zA _ (by decide), zB _⟩
      · cases e; exact ⟨k35, n36, zA _ (by decide), zB _⟩
      · cases e; exact ⟨k37, n38, zA _ (by decide), zB _⟩
      · cases e; exact ⟨k39, n40, zA _ (by decide), zB _⟩
      · cases e; exact ⟨k41, n42, zA _ (by decide), zB _⟩
      · cases e; exact ⟨k43, n44, zA _ (by decide), zB _⟩
      · cases e; exact ⟨k45, n46, zA _ (by decide), zB _⟩
      · cases e; exact ⟨k47, n48, zA _ (by decide), zB _⟩
      · cases e; exact ⟨k49, n50, zA _ (by decide), zB _⟩
      · cases e; exact ⟨k51, n52, zA _ (by decide), zB _⟩
      · cases e; exact ⟨k53, n54, zA _ (by decide), zB _⟩
      · cases e; exact ⟨k55, n56, zA _ (by decide), zB _⟩
      · cases e; exact ⟨k57, n58, zA _ (by decide), zB _⟩
      · cases e; exact ⟨k59, n60, zA _ (by decide), zB _⟩
      · cases e; exact ⟨k61, n62, zA _ (by decide), zB _⟩
      · cases e; exact ⟨k63, n64, zA _ (by decide), zB _⟩
      · cases e; exact ⟨k65, n66, zA _ (by decide), zB _⟩
      · cases e; exact ⟨k67, n68, zA _ (by decide), zB _⟩
      · cases e; exact ⟨k69, n70, zA _ (by decide), zB _⟩
      · cases e; exact ⟨k71, n72, zA _ (by decide), zB _⟩
      · cases e
    · have hi : i = 12 := Nat.add_left_cancel hi
      subst hi
      cases e
      refine ⟨k25, n26, ?_⟩
      have z : cA (sA (zat c12 a0) 25 a0 (cA y6 0 (aX d + 12))) 25 a0 = cA y6 0 (aX d + 12) := by simp [sA, zat, cI, cJ, cR, cA, cB, cQ, up2]
      show (.inl (1, 6, .inl (cA (sA (zat c12 a0) 25 a0 (cA y6 0 (aX d + 12))) 25 a0)) : UE) = .inl (1, 6, .inl (cA y6 0 (aX d + 12)))
      rw [z]
    · show cI _ k b = cI c12 k b ∧ cJ _ k b = cJ c12 k b ∧ cR _ k b = cR c12 k b ∧ cA _ k b = cA c12 k b ∧ cB _ k b = cB c12 k b ∧ cQ _ k b = cQ c12 k b
      simp [sA, zat, cI, cJ, cR, cA, cB, cQ, up2, g]
    · simp [sA, zat, cI, cJ, cR, cA, cB, cQ, up2]
    · rw [hf]
      obtain ⟨xx, hxx⟩ : ∃ z, z = (sA (zat c12 a0) 25 a0 (cA y6 0 (aX d + 12))) := ⟨_, rfl⟩
      rw [← hxx] at zI zJ ⊢
      show _ = ([.ref (if a0 = a0 then aX d + List.idxOf (some 0) l12 else aP e72 12 0 a0), .int (cI xx 1 a0), .int (cI xx 2 a0), .ref (if a0 = a0 then aX d + List.idxOf (some 3) l12 else aP e72 12 3 a0), .ref (if a0 = a0 then aX d + List.idxOf (some 4) l12 else aP e72 12 4 a0), .ref (if a0 = a0 then aX d + List.idxOf (some 5) l12 else aP e72 12 5 a0), .ref (if a0 = a0 then aX d + List.idxOf (some 6) l12 else aP e72 12 6 a0), .ref (if a0 = a0 then aX d + List.idxOf (some 7) l12 else aP e72 12 7 a0), .int (cI xx 8 a0), .int (cI xx 9 a0), .int (cI xx 10 a0), .int (cI xx 11 a0), .int (cI xx 12 a0), .int (cI xx 13 a0), .int (cI xx 14 a0), .ref (if a0 = a0 then aX d + List.idxOf (some 15) l12 else aP e72 12 15 a0), .int (cI xx 16 a0), .ref (if a0 = a0 then aX d + List.idxOf (some 17) l12 else aP e72 12 17 a0), .int (cI xx 18 a0), .ref (if a0 = a0 then aX d + List.idxOf (some 19) l12 else aP e72 12 19 a0), .ref (if a0 = a0 then aX d + List.idxOf (some 20) l12 else aP e72 12 20 a0), .int (cI xx 21 a0), .ref (if a0 = a0 then aX d + List.idxOf (some 22) l12 else aP e72 12 22 a0), .int (cI xx 23 a0), .ref (if a0 = a0 then aX d + List.idxOf (some 24) l12 else aP e72 12 24 a0), .ref (if a0 = a0 then aX d + List.idxOf (some 25) l12 else aP e72 12 25 a0), .ref (if a0 = a0 then aX d + List.idxOf (some 26) l12 else aP e72 12 26 a0), .ref (if a0 = a0 then aX d + List.idxOf (some 27) l12 else aP e72 12 27 a0), .ref (if a0 = a0 then aX d + List.idxOf (some 28) l12 else aP e72 12 28 a0), .ref (if a0 = a0 then aX d + List.idxOf (some 29) l12 else aP e72 12 29 a0), .ref (if a0 = a0 then aX d + List.idxOf (some 30) l12 else aP e72 12 30 a0), .int (cI xx 31 a0), .ref (if a0 = a0 then aX d + List.idxOf (some 32) l12 else aP e72 12 32 a0), .ref (if a0 = a0 then aX d + List.idxOf (some 33) l12 else aP e72 12 33 a0), .ref (if a0 = a0 then aX d + List.idxOf (some 34) l12 else aP e72 12 34 a0), .ref (if a0 = a0 then aX d + List.idxOf (some 35) l12 else aP e72 12 35 a0), .ref (if a0 = a0 then aX d + List.idxOf (some 36) l12 else aP e72 12 36 a0), .ref (if a0 = a0 then aX d + List.idxOf (some 37) l12 else aP e72 12 37 a0), .ref (if a0 = a0 then aX d + List.idxOf (some 38) l12 else aP e72 12 38 a0), .int (cI xx 39 a0), .ref (if a0 = a0 then aX d + List.idxOf (some 40) l12 else aP e72 12 40 a0), .ref (if a0 = a0 then aX d + List.idxOf (some 41) l12 else aP e72 12 41 a0), .ref (if a0 = a0 then aX d + List.idxOf (some 42) l12 else aP e72 12 42 a0), .ref (if a0 = a0 then aX d + List.idxOf (some 43) l12 else aP e72 12 43 a0), .ref (if a0 = a0 then aX d + List.idxOf (some 44) l12 else aP e72 12 44 a0), .ref (if a0 = a0 then aX d + List.idxOf (some 45) l12 else aP e72 12 45 a0), .long (cJ xx 46 a0), .ref (if a0 = a0 then aX d + List.idxOf (some 47) l12 else aP e72 12 47 a0), .ref (if a0 = a0 then aX d + List.idxOf (some 48) l12 else aP e72 12 48 a0), .ref (if a0 = a0 then aX d + List.idxOf (some 49) l12 else aP e72 12 49 a0), .ref (if a0 = a0 then aX d + List.idxOf (some 50) l12 else aP e72 12 50 a0), .ref (if a0 = a0 then aX d + List.idxOf (some 51) l12 else aP e72 12 51 a0)] : List Value)
      simp only [zI, zJ, if_pos]
      rfl
    · rcases k with _ | _ | _ | _ | _ | _ | _ | _ | _ | _ | _ | _ | _ | _ | _ | _ | _ | _ | _ | _ | _ | _ | _ | _ | _ | _ | _ | _ | _ | _ | _ | _ | _ | _ | _ | _ | _ | _ | _ | _ | _ | _ | _ | _ | _ | _ | _ | _ | _ | _ | _ | _ | k
      · exact absurd rfl h3
      · exact True.intro
      · exact True.intro
      · exact absurd rfl h3
      · exact absurd rfl h3
      · exact absurd rfl h3
      · exact absurd rfl h3
      · exact absurd rfl h3
      · exact True.intro
      · exact True.intro
      · exact True.intro
      · exact True.intro
      · exact True.intro
      · exact True.intro
      · exact True.intro
      · exact absurd rfl h3
      · exact True.intro
      · exact absurd rfl h3
      · exact True.intro
      · exact absurd rfl h3
      · exact absurd rfl h3
      · exact True.intro
      · exact absurd rfl h3
      · exact True.intro
      · exact absurd rfl h3
      · exact absurd rfl h3
      · exact absurd rfl h3
      · exact absurd rfl h3
      · exact absurd rfl h3
      · exact absurd rfl h3
      · exact absurd rfl h3
      · exact True.intro
      · exact absurd rfl h3
      · exact absurd rfl h3
      · exact absurd rfl h3
      · exact absurd rfl h3
      · exact absurd rfl h3
      · exact absurd rfl h3
      · exact absurd rfl h3
      · exact True.intro
      · exact absurd rfl h3
      · exact absurd rfl h3
      · exact absurd rfl h3
      · exact absurd rfl h3
      · exact absurd rfl h3
      · exact absurd rfl h3
      · exact True.intro
      · exact absurd rfl h3
      · exact absurd rfl h3
      · exact absurd rfl h3
      · exact absurd rfl h3
      · exact absurd rfl h3
      · exact absurd hk (Nat.not_lt.mpr (Nat.le_add_left _ _))
  have hv : cA y6 0 (aX d + 12) 0 = 7776 ∧ cA y6 0 (aX d + 12) 1 = 1296 ∧ cA y6 0 (aX d + 12) 2 = 216 ∧ cA y6 0 (aX d + 12) 3 = 36 ∧ cA y6 0 (aX d + 12) 4 = 6 ∧ cA y6 0 (aX d + 12) 5 = 1 := by
    rw [hy6, hy5, hy4, hy3, hy2, hy1, hy0]
    simp [sA, cA, up2, upd]
  have hv2 : ∀ b, b ≠ aX d + 12 → cA y6 0 b = cA c13 0 b := fun b g => by
    rw [hy6, hy5, hy4, hy3, hy2, hy1, hy0]
    simp [sA, cA, up2, g]
  have hv3 : cB y6 = cB c13 := by rw [hy6, hy5, hy4, hy3, hy2, hy1, hy0]; rfl
  exact en_ret (by decide +kernel : u_at kl_169 334 = some (.return_, [])) rfl ⟨rfl, y6, own e72 12 a0 (aX d) l12, hO, hv, hv2, hv3, hX, hS, WO, by rw [own_K, if_pos rfl]⟩
