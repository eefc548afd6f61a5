set_option maxRecDepth 100000 in
set_option maxHeartbeats 4000000 in
theorem e_0 {D : Nat} {c0 c1 c2 c3 c4 c5 c6 c7 c8 c9 c10 c11 c12 c13 : Cl} {d : Ad} {h : UH} {a0 a1 : Nat} (hD : 1 ≤ D) (hW : HW (mkw c0 c1 c2 c3 c4 c5 c6 c7 c8 c9 c10 c11 c12 c13) d h) (ha0 : aK d a0 = (3, 0, 0)) (hf : aF d a0 = [.null, .int 0, .int 0, .int 0, .int 0, .int 0, .int 0, .int 0, .int 0, .long 0, .int 0, .int 0]) (ha1 : aK d a1 = (0, 6, 0)) : ∃ q, EX D 0 [.ref a0, .ref a1] h q ∧ q.1 = none ∧ HW (mkw (sR (zat c0 a0) 0 a0 a1) c1 c2 c3 c4 c5 c6 c7 c8 c9 c10 c11 c12 c13) (own (adf (d) a0 [.ref a1, .int 0, .int 0, .int 0, .int 0, .int 0, .int 0, .int 0, .int 0, .long 0, .int 0, .int 0]) 0 a0 (aX d) []) q.2 ∧ Adw a0 d (own (adf (d) a0 [.ref a1, .int 0, .int 0, .int 0, .int 0, .int 0, .int 0, .int 0, .int 0, .long 0, .int 0, .int 0]) 0 a0 (aX d) []) := by
  obtain ⟨D, rfl⟩ : ∃ E, D = E + 1 := ⟨D - 1, by omega⟩
  have hd0 := hW
  have W : Adw a0 d d := Adw.of Adx.rf
  have za1 : a1 ≠ a0 := fun q => by rw [q, ha0] at ha1; cases ha1
  refine ex_in (kl := kl_0) (nL := 2) rfl (by decide +kernel) (Nat.le_of_ble_eq_true rfl) ?_
  show Ends (EX D) (u_at kl_0) (0, [some (.ref a0), some (.ref a1)], [], h) _
  have hX : aX d = aX d + 0 := rfl
  refine en_segs [(0, .aload_n 0, []), (1, .invokespecial 3, []), (4, .aload_n 0, []), (5, .aload_n 1, [])] (by decide +kernel) (y := (6, [some (.ref a0), some (.ref a1)], [.ref a1, .ref a0], h)) rfl ?_
  refine en_putA (fs' := [.ref a1, .int 0, .int 0, .int 0, .int 0, .int 0, .int 0, .int 0, .int 0, .long 0, .int 0, .int 0]) (by decide +kernel : u_at kl_0 6 = some (.putfield 9, [0, 0, 3])) hW ha0 hf (Nat.le_of_ble_eq_true rfl) rfl rfl hX (fun h e0 he0 hW kq nq hX hf ha0 y => ?_)
  have W := W.trans y
  have WO := own_w (c := 0) (X := aX d) (l := []) hd0 (Nat.le_refl _) W
  have fa1 := (WO.2.1 a1 za1 (by rw [ha1]; exact fun q => by cases q)).trans ha1
  have hO : HW (mkw (sR (zat c0 a0) 0 a0 a1) c1 c2 c3 c4 c5 c6 c7 c8 c9 c10 c11 c12 c13) (own e0 0 a0 (aX d) []) h := by
    refine hw_own2 (c := 0) (a := a0) (X := aX d) (l := []) (x := (sR (zat c0 a0) 0 a0 a1)) hW (by decide) ha0 (by decide +kernel) (fun i k e => ?_) (fun k b g => ?_) (fun k => ?_) ?_ (fun k hk h3 => ?_)
    · cases e
    · show cI _ k b = cI c0 k b ∧ cJ _ k b = cJ c0 k b ∧ cR _ k b = cR c0 k b ∧ cA _ k b = cA c0 k b ∧ cB _ k b = cB c0 k b ∧ cQ _ k b = cQ c0 k b
      simp [sI, sJ, sR, zat, cI, cJ, cR, cA, cB, cQ, up2, g]
    · simp [sI, sJ, sR, zat, cI, cJ, cR, cA, cB, cQ, up2]
    · rw [hf]
      show _ = ([.ref (cR (sR (zat c0 a0) 0 a0 a1) 0 a0), .int (cI (sR (zat c0 a0) 0 a0 a1) 1 a0), .int (cI (sR (zat c0 a0) 0 a0 a1) 2 a0), .int (cI (sR (zat c0 a0) 0 a0 a1) 3 a0), .int (cI (sR (zat c0 a0) 0 a0 a1) 4 a0), .int (cI (sR (zat c0 a0) 0 a0 a1) 5 a0), .int (cI (sR (zat c0 a0) 0 a0 a1) 6 a0), .int (cI (sR (zat c0 a0) 0 a0 a1) 7 a0), .int (cI (sR (zat c0 a0) 0 a0 a1) 8 a0), .long (cJ (sR (zat c0 a0) 0 a0 a1) 9 a0), .int (cI (sR (zat c0 a0) 0 a0 a1) 10 a0), .int (cI (sR (zat c0 a0) 0 a0 a1) 11 a0)] : List Value)
      simp [sI, sJ, sR, zat, cI, cJ, cR, cA, cB, cQ, up2, List.idxOf, List.findIdx, List.findIdx.go]
    · rcases k with _ | _ | _ | _ | _ | _ | _ | _ | _ | _ | _ | _ | k
      · show aK _ (cR (sR (zat c0 a0) 0 a0 a1) 0 a0) = _
        have : cR (sR (zat c0 a0) 0 a0 a1) 0 a0 = a1 := by simp [sI, sJ, sR, zat, cI, cJ, cR, cA, cB, cQ, up2]
        rw [this]; exact fa1
      · exact True.intro
      · exact True.intro
      · exact True.intro
      · exact True.intro
      · exact True.intro
      · exact True.intro
      · exact True.intro
      · exact True.intro
      · exact True.intro
      · exact True.intro
      · exact True.intro
      · exact absurd hk (Nat.not_lt.mpr (Nat.le_add_left _ _))
  exact en_ret (by decide +kernel : u_at kl_0 9 = some (.return_, [])) rfl (by subst he0; exact ⟨rfl, hO, WO⟩)
set_option maxRecDepth 100000 in
set_option maxHeartbeats 4000000 in
theorem e_9 {D : Nat} {c0 c1 c2 c3 c4 c5 c6 c7 c8 c9 c10 c11 c12 c13 : Cl} {d : Ad} {h : UH} {a0 : Nat} (hD : 2 ≤ D) (hW : HW (mkw c0 c1 c2 c3 c4 c5 c6 c7 c8 c9 c10 c11 c12 c13) d h) (ha0 : aK d a0 = (3, 1, 0)) (hf : aF d a0 = [.int 0, .int 0, .int 0, .int 0, .int 0, .null, .null, .null, .null, .null, .null, .null, .null]) : ∃ q, EX D 9 [.ref a0] h q ∧ q.1 = none ∧ HW (mkw c0 (sA (sI (zat c1 a0) 4 a0 3) 10 a0 (filf 6 99 (cA (sI (zat c1 a0) 4 a0 3) 10 a0))) c2 c3 c4 c5 c6 c7 c8 c9 c10 c11 c12 c13) (own (adf (adz (adf (adz (adf (adz (adf (adz (adf (adz (adf (adz (adf (adz (adf (adz (adf (d) a0 [.int 0, .int 0, .int 0, .int 0, .int 3, .null, .null, .null, .null, .null, .null, .null, .null]) 1 10) a0 [.int 0, .int 0, .int 0, .int 0, .int 3, .ref (aX d + 0), .null, .null, .null, .null, .null, .null, .null]) 1 10) a0 [.int 0, .int 0, .int 0, .int 0, .int 3, .ref (aX d + 0), .ref (aX d + 1), .null, .null, .null, .null, .null, .null]) 1 6) a0 [.int 0, .int 0, .int 0, .int 0, .int 3, .ref (aX d + 0), .ref (aX d + 1), .ref (aX d + 2), .null, .null, .null, .null, .null]) 1 6) a0 [.int 0, .int 0, .int 0, .int 0, .int 3, .ref (aX d + 0), .ref (aX d + 1), .ref (aX d + 2), .ref (aX d + 3), .null, .null, .null, .null]) 1 6) a0 [.int 0, .int 0, .int 0, .int 0, .int 3, .ref (aX d + 0), .ref (aX d + 1), .ref (aX d + 2), .ref (aX d + 3), .ref (aX d + 4), .null, .null, .null]) 1 6) a0 [.int 0, .int 0, .int 0, .int 0, .int 3, .ref (aX d + 0), .ref (aX d + 1), .ref (aX d + 2), .ref (aX d + 3), .ref (aX d + 4), .ref (aX d + 5), .null, .null]) 1 6) a0 [.int 0, .int 0, .int 0, .int 0, .int 3, .ref (aX d + 0), .ref (aX d + 1), .ref (aX d + 2), .ref (aX d + 3), .ref (aX d + 4), .ref (aX d + 5), .ref (aX d + 6), .null]) 1 6) a0 [.int 0, .int 0, .int 0, .int 0, .int 3, .ref (aX d + 0), .ref (aX d + 1), .ref (aX d + 2), .ref (aX d + 3), .ref (aX d + 4), .ref (aX d + 5), .ref (aX d + 6), .ref (aX d + 7)]) 1 a0 (aX d) [some 5, some 6, some 7, some 8, some 9, some 10, some 11, some 12]) q.2 ∧ Adw a0 d (own (adf (adz (adf (adz (adf (adz (adf (adz (adf (adz (adf (adz (adf (adz (adf (adz (adf (d) a0 [.int 0, .int 0, .int 0, .int 0, .int 3, .null, .null, .null, .null, .null, .null, .null, .null]) 1 10) a0 [.int 0, .int 0, .int 0, .int 0, .int 3, .ref (aX d + 0), .null, .null, .null, .null, .null, .null, .null]) 1 10) a0 [.int 0, .int 0, .int 0, .int 0, .int 3, .ref (aX d + 0), .ref (aX d + 1), .null, .null, .null, .null, .null, .null]) 1 6) a0 [.int 0, .int 0, .int 0, .int 0, .int 3, .ref (aX d + 0), .ref (aX d + 1), .ref (aX d + 2), .null, .null, .null, .null, .null]) 1 6) a0 [.int 0, .int 0, .int 0, .int 0, .int 3, .ref (aX d + 0), .ref (aX d + 1), .ref (aX d + 2), .ref (aX d + 3), .null, .null, .null, .null]) 1 6) a0 [.int 0, .int 0, .int 0, .int 0, .int 3, .ref (aX d + 0), .ref (aX d + 1), .ref (aX d + 2), .ref (aX d + 3), .ref (aX d + 4), .null, .null, .null]) 1 6) a0 [.int 0, .int 0, .int 0, .int 0, .int 3, .ref (aX d + 0), .ref (aX d + 1), .ref (aX d + 2), .ref (aX d + 3), .ref (aX d + 4), .ref (aX d + 5), .null, .null]) 1 6) a0 [.int 0, .int 0, .int 0, .int 0, .int 3, .ref (aX d + 0), .ref (aX d + 1), .ref (aX d + 2), .ref (aX d + 3), .ref (aX d + 4), .ref (aX d + 5), .ref (aX d + 6), .null]) 1 6) a0 [.int 0, .int 0, .int 0, .int 0, .int 3, .ref (aX d + 0), .ref (aX d + 1), .ref (aX d + 2), .ref (aX d + 3), .ref (aX d + 4), .ref (aX d + 5), .ref (aX d + 6), .ref (aX d + 7)]) 1 a0 (aX d) [some 5, some 6, some 7, some 8, some 9, some 10, some 11, some 12]) := by
  obtain ⟨D, rfl⟩ : ∃ E, D = E + 1 := ⟨D - 1, by omega⟩
  have hd0 := hW
  have W : Adw a0 d d := Adw.of Adx.rf
  refine ex_in (kl := kl_9) (nL := 1) rfl (by decide +kernel) (Nat.le_of_ble_eq_true rfl) ?_
  show Ends (EX D) (u_at kl_9) (0, [some (.ref a0)], [], h) _
  have hX : aX d = aX d + 0 := rfl
  refine en_segs [(0, .aload_n 0, []), (1, .invokespecial 3, []), (4, .aload_n 0, []), (5, .iconst 3, [])] (by decide +kernel) (y := (6, [some (.ref a0)], [.int 3, .ref a0], h)) rfl ?_
  refine en_putA (fs' := [.int 0, .int 0, .int 0, .int 0, .int 3, .null, .null, .null, .null, .null, .null, .null, .null]) (by decide +kernel : u_at kl_9 6 = some (.putfield 9, [1, 4, 0])) hW ha0 hf (Nat.le_of_ble_eq_true rfl) rfl rfl hX (fun h e0 he0 hW kq nq hX hf ha0 y => ?_)
  have W := W.trans y
  refine en_segs [(9, .aload_n 0, []), (10, .bipush 10, [])] (by decide +kernel) (y := (12, [some (.ref a0)], [.int 10, .ref a0], h)) rfl ?_
  refine en_nzA (N := 10) (B := aX d) (j := 0) (by decide +kernel : u_at kl_9 12 = some (.newarray .int, [1])) hW (by decide +kernel) (by decide +kernel) rfl hX hf ha0 (fun h e1 he1 hW x k0 n0 hX hf ha0 => ?_)
  have W := W.trans (Adw.of x)
  refine en_putA (fs' := [.int 0, .int 0, .int 0, .int 0, .int 3, .ref (aX d + 0), .null, .null, .null, .null, .null, .null, .null]) (by decide +kernel : u_at kl_9 14 = some (.putfield 15, [1, 5, 3])) hW ha0 hf (Nat.le_of_ble_eq_true rfl) rfl rfl hX (fun h e2 he2 hW kq nq hX hf ha0 y => ?_)
  have W := W.trans y
  have k0 := (kq _).trans k0
  have n0 := (congrFun nq _).trans n0
  refine en_segs [(17, .aload_n 0, []), (18, .bipush 10, [])] (by decide +kernel) (y := (20, [some (.ref a0)], [.int 10, .ref a0], h)) rfl ?_
  refine en_nzA (N := 10) (B := aX d) (j := 1) (by decide +kernel : u_at kl_9 20 = some (.newarray .int, [1])) hW (by decide +kernel) (by decide +kernel) rfl hX hf ha0 (fun h e3 he3 hW x k1 n1 hX hf ha0 => ?_)
  have n0 := (x.2.2.2.2.2.2.2 _ _ k0).trans n0
  have k0 := x.z k0
  have W := W.trans (Adw.of x)
  refine en_putA (fs' := [.int 0, .int 0, .int 0, .int 0, .int 3, .ref (aX d + 0), .ref (aX d + 1), .null, .null, .null, .null, .null, .null]) (by decide +kernel : u_at kl_9 22 = some (.putfield 19, [1, 6, 3])) hW ha0 hf (Nat.le_of_ble_eq_true rfl) rfl rfl hX (fun h e4 he4 hW kq nq hX hf ha0 y => ?_)
  have W := W.trans y
  have k0 := (kq _).trans k0
  have n0 := (congrFun nq _).trans n0
  have k1 := (kq _).trans k1
  have n1 := (congrFun nq _).trans n1
  refine en_segs [(25, .aload_n 0, []), (26, .bipush 6, [])] (by decide +kernel) (y := (28, [some (.ref a0)], [.int 6, .ref a0], h)) rfl ?_
  refine en_nzA (N := 6) (B := aX d) (j := 2) (by decide +kernel : u_at kl_9 28 = some (.newarray .int, [1])) hW (by decide +kernel) (by decide +kernel) rfl hX hf ha0 (fun h e5 he5 hW x k2 n2 hX hf ha0 => ?_)
  have n0 := (x.2.2.2.2.2.2.2 _ _ k0).trans n0
  have k0 := x.z k0
  have n1 := (x.2.2.2.2.2.2.2 _ _ k1).trans n1
  have k1 := x.z k1
  have W := W.trans (Adw.of x)
  refine en_putA (fs' := [.int 0, .int 0, .int 0, .int 0, .int 3, .ref (aX d + 0), .ref (aX d + 1), .ref (aX d + 2), .null, .null, .null, .null, .null]) (by decide +kernel : u_at kl_9 30 = some (.putfield 22, [1, 7, 3])) hW ha0 hf (Nat.le_of_ble_eq_true rfl) rfl rfl hX (fun h e6 he6 hW kq nq hX hf ha0 y => ?_)
  have W := W.trans y
  have k0 := (kq _).trans k0
  have n0 := (congrFun nq _).trans n0
  have k1 := (kq _).trans k1
  have n1 := (congrFun nq _).trans n1
  have k2 := (kq _).trans k2
  have n2 := (congrFun nq _).trans n2
  refine en_segs [(33, .aload_n 0, []), (34, .bipush 6, [])] (by decide +kernel) (y := (36, [some (.ref a0)], [.int 6, .ref a0], h)) rfl ?_
  refine en_nzA (N := 6) (B := aX d) (j := 3) (by decide +kernel : u_at kl_9 36 = some (.newarray .int, [1])) hW (by decide +kernel) (by decide +kernel) rfl hX hf ha0 (fun h e7 he7 hW x k3 n3 hX hf ha0 => ?_)
  have n0 := (x.2.2.2.2.2.2.2 _ _ k0).trans n0
  have k0 := x.z k0
  have n1 := (x.2.2.2.2.2.2.2 _ _ k1).trans n1
  have k1 := x.z k1
  have n2 := (x.2.2.2.2.2.2.2 _ _ k2).trans n2
  have k2 := x.z k2
  have W := W.trans (Adw.of x)
  refine en_putA (fs' := [.int 0, .int 0, .int 0, .int 0, .int 3, .ref (aX d + 0), .ref (aX d + 1), .ref (aX d + 2), .ref (aX d + 3), .null, .null, .null, .null]) (by decide +kernel : u_at kl_9 38 = some (.putfield 25, [1, 8, 3])) hW ha0 hf (Nat.le_of_ble_eq_true rfl) rfl rfl hX (fun h e8 he8 hW kq nq hX hf ha0 y => ?_)
  have W := W.trans y
  have k0 := (kq _).trans k0
  have n0 := (congrFun nq _).trans n0
  have k1 := (kq _).trans k1
  have n1 := (congrFun nq _).trans n1
  have k2 := (kq _).trans k2
  have n2 := (congrFun nq _).trans n2
  have k3 := (kq _).trans k3
  have n3 := (congrFun nq _).trans n3
  refine en_segs [(41, .aload_n 0, []), (42, .bipush 6, [])] (by decide +kernel) (y := (44, [some (.ref a0)], [.int 6, .ref a0], h)) rfl ?_
  refine en_nzA (N := 6) (B := aX d) (j := 4) (by decide +kernel : u_at kl_9 44 = some (.newarray .int, [1])) hW (by decide +kernel) (by decide +kernel) rfl hX hf ha0 (fun h e9 he9 hW x k4 n4 hX hf ha0 => ?_)
  have n0 := (x.2.2.2.2.2.2.2 _ _ k0).trans n0
  have k0 := x.z k0
  have n1 := (x.2.2.2.2.2.2.2 _ _ k1).trans n1
  have k1 := x.z k1
  have n2 := (x.2.2.2.2.2.2.2 _ _ k2).trans n2
  have k2 := x.z k2
  have n3 := (x.2.2.2.2.2.2.2 _ _ k3).trans n3
  have k3 := x.z k3
  have W := W.trans (Adw.of x)
  refine en_putA (fs' := [.int 0, .int 0, .int 0, .int 0, .int 3, .ref (aX d + 0), .ref (aX d + 1), .ref (aX d + 2), .ref (aX d + 3), .ref (aX d + 4), .null, .null, .null]) (by decide +kernel : u_at kl_9 46 = some (.putfield 28, [1, 9, 3])) hW ha0 hf (Nat.le_of_ble_eq_true rfl) rfl rfl hX (fun h e10 he10 hW kq nq hX hf ha0 y => ?_)
  have W := W.trans y
  have k0 := (kq _).trans k0
  have n0 := (congrFun nq _).trans n0
  have k1 := (kq _).trans k1
  have n1 := (congrFun nq _).trans n1
  have k2 := (kq _).trans k2
  have n2 := (congrFun nq _).trans n2
  have k3 := (kq _).trans k3
  have n3 := (congrFun nq _).trans n3
  have k4 := (kq _).trans k4
  have n4 := (congrFun nq _).trans n4
  refine en_segs [(49, .aload_n 0, []), (50, .bipush 6, [])] (by decide +kernel) (y := (52, [some (.ref a0)], [.int 6, .ref a0], h)) rfl ?_
  refine en_nzA (N := 6) (B := aX d) (j := 5) (by decide +kernel : u_at kl_9 52 = some (.newarray .int, [1])) hW (by decide +kernel) (by decide +kernel) rfl hX hf ha0 (fun h e11 he11 hW x k5 n5 hX hf ha0 => ?_)
  have n0 := (x.2.2.2.2.2.2.2 _ _ k0).trans n0
  have k0 := x.z k0
  have n1 := (x.2.2.2.2.2.2.2 _ _ k1).trans n1
  have k1 := x.z k1
  have n2 := (x.2.2.2.2.2.2.2 _ _ k2).trans n2
  have k2 := x.z k2
  have n3 := (x.2.2.2.2.2.2.2 _ _ k3).trans n3
  have k3 := x.z k3
  have n4 := (x.2.2.2.2.2.2.2 _ _ k4).trans n4
  have k4 := x.z k4
  have W := W.trans (Adw.of x)
  refine en_putA (fs' := [.int 0, .int 0, .int 0, .int 0, .int 3, .ref (aX d + 0), .ref (aX d + 1), .ref (aX d + 2), .ref (aX d + 3), .ref (aX d + 4), .ref (aX d + 5), .null, .null]) (by decide +kernel : u_at kl_9 54 = some (.putfield 31, [1, 10, 3])) hW ha0 hf (Nat.le_of_ble_eq_true rfl) rfl rfl hX (fun h e12 he12 hW kq nq hX hf ha0 y => ?_)
  have W := W.trans y
  have k0 := (kq _).trans k0
  have n0 := (congrFun nq _).trans n0
  have k1 := (kq _).trans k1
  have n1 := (congrFun nq _).trans n1
  have k2 := (kq _).trans k2
  have n2 := (congrFun nq _).trans n2
  have k3 := (kq _).trans k3
  have n3 := (congrFun nq _).trans n3
  have k4 := (kq _).trans k4
  have n4 := (congrFun nq _).trans n4
  have k5 := (kq _).trans k5
  have n5 := (congrFun nq _).trans n5
  refine en_segs [(57, .aload_n 0, []), (58, .bipush 6, [])] (by decide +kernel) (y := (60, [some (.ref a0)], [.int 6, .ref a0], h)) rfl ?_
  refine en_nzA (N := 6) (B := aX d) (j := 6) (by decide +kernel : u_at kl_9 60 = some (.newarray .int, [1])) hW (by decide +kernel) (by decide +kernel) rfl hX hf ha0 (fun h e13 he13 hW x k6 n6 hX hf ha0 => ?_)
  have n0 := (x.2.2.2.2.2.2.2 _ _ k0).trans n0
  have k0 := x.z k0
  have n1 := (x.2.2.2.2.2.2.2 _ _ k1).trans n1
  have k1 := x.z k1
  have n2 := (x.2.2.2.2.2.2.2 _ _ k2).trans n2
  have k2 := x.z k2
  have n3 := (x.2.2.2.2.2.2.2 _ _ k3).trans n3
  have k3 := x.z k3
  have n4 := (x.2.2.2.2.2.2.2 _ _ k4).trans n4
  have k4 := x.z k4
  have n5 := (x.2.2.2.2.2.2.2 _ _ k5).trans n5
  have k5 := x.z k5
  have W := W.trans (Adw.of x)
  refine en_putA (fs' := [.int 0, .int 0, .int 0, .int 0, .int 3, .ref (aX d + 0), .ref (aX d + 1), .ref (aX d + 2), .ref (aX d + 3), .ref (aX d + 4), .ref (aX d + 5), .ref (aX d + 6), .null]) (by decide +kernel : u_at kl_9 62 = some (.putfield 34, [1, 11, 3])) hW ha0 hf (Nat.le_of_ble_eq_true rfl) rfl rfl hX (fun h e14 he14 hW kq nq hX hf ha0 y => ?_)
  have W := W.trans y
  have k0 := (kq _).trans k0
  have n0 := (congrFun nq _).trans n0
  have k1 := (kq _).trans k1
  have n1 := (congrFun nq _).trans n1
  have k2 := (kq _).trans k2
  have n2 := (congrFun nq _).trans n2
  have k3 := (kq _).trans k3
  have n3 := (congrFun nq _).trans n3
  have k4 := (kq _).trans k4
  have n4 := (congrFun nq _).trans n4
  have k5 := (kq _).trans k5
  have n5 := (congrFun nq _).trans n5
  have k6 := (kq _).trans k6
  have n6 := (congrFun nq _).trans n6
  refine en_segs [(65, .aload_n 0, []), (66, .bipush 6, [])] (by decide +kernel) (y := (68, [some (.ref a0)], [.int 6, .ref a0], h)) rfl ?_
  refine en_nzA (N := 6) (B := aX d) (j := 7) (by decide +kernel : u_at kl_9 68 = some (.newarray .int, [1])) hW (by decide +kernel) (by decide +kernel) rfl hX hf ha0 (fun h e15 he15 hW x k7 n7 hX hf ha0 => ?_)
  have n0 := (x.2.2.2.2.2.2.2 _ _ k0).trans n0
  have k0 := x.z k0
  have n1 := (x.2.2.2.2.2.2.2 _ _ k1).trans n1
  have k1 := x.z k1
  have n2 := (x.2.2.2.2.2.2.2 _ _ k2).trans n2
  have k2 := x.z k2
  have n3 := (x.2.2.2.2.2.2.2 _ _ k3).trans n3
  have k3 := x.z k3
  have n4 := (x.2.2.2.2.2.2.2 _ _ k4).trans n4
  have k4 := x.z k4
  have n5 := (x.2.2.2.2.2.2.2 _ _ k5).trans n5
  have k5 := x.z k5
  have n6 := (x.2.2.2.2.2.2.2 _ _ k6).trans n6
  have k6 := x.z k6
  have W := W.trans (Adw.of x)
  refine en_putA (fs' := [.int 0, .int 0, .int 0, .int 0, .int 3, .ref (aX d + 0), .ref (aX d + 1), .ref (aX d + 2), .ref (aX d + 3), .ref (aX d + 4), .ref (aX d + 5), .ref (aX d + 6), .ref (aX d + 7)]) (by decide +kernel : u_at kl_9 70 = some (.putfield 37, [1, 12, 3])) hW ha0 hf (Nat.le_of_ble_eq_true rfl) rfl rfl hX (fun h e16 he16 hW kq nq hX hf ha0 y => ?_)
  have W := W.trans y
  have k0 := (kq _).trans k0
  have n0 := (congrFun nq _).trans n0
  have k1 := (kq _).trans k1
  have n1 := (congrFun nq _).trans n1
  have k2 := (kq _).trans k2
  have n2 := (congrFun nq _).trans n2
  have k3 := (kq _).trans k3
  have n3 := (congrFun nq _).trans n3
  have k4 := (kq _).trans k4
  have n4 := (congrFun nq _).trans n4
  have k5 := (kq _).trans k5
  have n5 := (congrFun nq _).trans n5
  have k6 := (kq _).trans k6
  have n6 := (congrFun nq _).trans n6
  have k7 := (kq _).trans k7
  have n7 := (congrFun nq _).trans n7
  have WO := own_w (c := 1) (X := aX d) (l := [some 5, some 6, some 7, some 8, some 9, some 10, some 11, some 12]) hd0 (Nat.le_refl _) W
  have hO : HW (mkw c0 (sI (zat c1 a0) 4 a0 3) c2 c3 c4 c5 c6 c7 c8 c9 c10 c11 c12 c13) (own e16 1 a0 (aX d) [some 5, some 6, some 7, some 8, some 9, some 10, some 11, some 12]) h := by
    refine hw_own2 (c := 1) (a := a0) (X := aX d) (l := [some 5, some 6, some 7, some 8, some 9, some 10, some 11, some 12]) (x := (sI (zat c1 a0) 4 a0 3)) hW (by decide) ha0 (by decide +kernel) (fun i k e => ?_) (fun k b g => ?_) (fun k => ?_) ?_ (fun k hk h3 => ?_)
    · rcases i with _ | _ | _ | _ | _ | _ | _ | _ | i
      · cases e; exact ⟨k0, n0⟩
      · cases e; exact ⟨k1, n1⟩
      · cases e; exact ⟨k2, n2⟩
      · cases e; exact ⟨k3, n3⟩
      · cases e; exact ⟨k4, n4⟩
      · cases e; exact ⟨k5, n5⟩
      · cases e; exact ⟨k6, n6⟩
      · cases e; exact ⟨k7, n7⟩
      · cases e
    · show cI _ k b = cI c1 k b ∧ cJ _ k b = cJ c1 k b ∧ cR _ k b = cR c1 k b ∧ cA _ k b = cA c1 k b ∧ cB _ k b = cB c1 k b ∧ cQ _ k b = cQ c1 k b
      simp [sI, sJ, sR, zat, cI, cJ, cR, cA, cB, cQ, up2, g]
    · simp [sI, sJ, sR, zat, cI, cJ, cR, cA, cB, cQ, up2]
    · rw [hf]
      show _ = ([.int (cI (sI (zat c1 a0) 4 a0 3) 0 a0), .int (cI (sI (zat c1 a0) 4 a0 3) 1 a0), .int (cI (sI (zat c1 a0) 4 a0 3) 2 a0), .int (cI (sI (zat c1 a0) 4 a0 3) 3 a0), .int (cI (sI (zat c1 a0) 4 a0 3) 4 a0), .ref (if a0 = a0 then aX d + List.idxOf (some 5) [some 5, some 6, some 7, some 8, some 9, some 10, some 11, some 12] else aP e16 1 5 a0), .ref (if a0 = a0 then aX d + List.idxOf (some 6) [some 5, some 6, some 7, some 8, some 9, some 10, some 11, some 12] else aP e16 1 6 a0), .ref (if a0 = a0 then aX d + List.idxOf (some 7) [some 5, some 6, some 7, some 8, some 9, some 10, some 11, some 12] else aP e16 1 7 a0), .ref (if a0 = a0 then aX d + List.idxOf (some 8) [some 5, some 6, some 7, some 8, some 9, some 10, some 11, some 12] else aP e16 1 8 a0), .ref (if a0 = a0 then aX d + List.idxOf (some 9) [some 5, some 6, some 7, some 8, some 9, some 10, some 11, some 12] else aP e16 1 9 a0), .ref (if a0 = a0 then aX d + List.idxOf (some 10) [some 5, some 6, some 7, some 8, some 9, some 10, some 11, some 12] else aP e16 1 10 a0), .ref (if a0 = a0 then aX d + List.idxOf (some 11) [some 5, some 6, some 7, some 8, some 9, some 10, some 11, some 12] else aP e16 1 11 a0), .ref (if a0 = a0 then aX d + List.idxOf (some 12) [some 5, some 6, some 7, some 8, some 9, some 10, some 11, some 12] else aP e16 1 12 a0)] : List Value)
      simp [sI, sJ, sR, zat, cI, cJ, cR, cA, cB, cQ, up2, List.idxOf, List.findIdx, List.findIdx.go]
    · rcases k with _ | _ | _ | _ | _ | _ | _ | _ | _ | _ | _ | _ | _ | k
      · exact True.intro
      · exact True.intro
      · exact True.intro
      · exact True.intro
      · exact True.intro
      · exact absurd rfl h3
      · exact absurd rfl h3
      · exact absurd rfl h3
      · exact absurd rfl h3
      · exact absurd rfl h3
      · exact absurd rfl h3
      · exact absurd rfl h3
      · exact absurd rfl h3
      · exact absurd hk (Nat.not_lt.mpr (Nat.le_add_left _ _))
  have ka : aK (own e16 1 a0 (aX d) [some 5, some 6, some 7, some 8, some 9, some 10, some 11, some 12]) a0 = (0, 1, 0) := by rw [own_K, if_pos rfl]
  refine en_segs [(73, .aload_n 0, [])] (by decide +kernel) (y := (74, [some (.ref a0)], [.ref a0], h)) rfl ?_
  refine en_get (v := .ref (aP (own e16 1 a0 (aX d) [some 5, some 6, some 7, some 8, some 9, some 10, some 11, some 12]) 1 10 a0)) (by decide +kernel : u_at kl_9 74 = some (.getfield 31, [1, 10])) hO ka (by decide) rfl ?_
  refine en_segs [(77, .bipush 99, [])] (by decide +kernel) (y := (79, [some (.ref a0)], [.int 99, .ref (aP (own e16 1 a0 (aX d) [some 5, some 6, some 7, some 8, some 9, some 10, some 11, some 12]) 1 10 a0)], h)) rfl ?_
  refine en_sv (r := []) (by decide +kernel : u_at kl_9 79 = some (.invokestatic 40, [304, 2])) rfl rfl (Nat.le_of_ble_eq_true rfl) (e_fillI (D := D) (v := 99) (by omega) hO ka rfl (by decide)) (fun h hO => ?_)
  exact en_ret (by decide +kernel : u_at kl_9 82 = some (.return_, [])) rfl (by subst he16 he15 he14 he13 he12 he11 he10 he9 he8 he7 he6 he5 he4 he3 he2 he1 he0; exact ⟨rfl, hO, WO⟩)
set_option maxRecDepth 100000 in
set_option maxHeartbeats 4000000 in
theorem e_36 {D : Nat} {c0 c1 c2 c3 c4 c5 c6 c7 c8 c9 c10 c11 c12 c13 : Cl} {d : Ad} {h : UH} {a0 a1 a2 a3 : Nat} (hD : 1 ≤ D) (hW : HW (mkw c0 c1 c2 c3 c4 c5 c6 c7 c8 c9 c10 c11 c12 c13) d h) (ha0 : aK d a0 = (3, 4, 0)) (hf : aF d a0 = [.null, .null, .null, .null]) (ha1 : aK d a1 = (2, 1, 0)) (ha2 : aK d a2 = (2, 1, 0)) (ha3 : aK d a3 = (2, 1, 0)) : ∃ q, EX D 36 [.ref a0, .ref a1, .ref a2, .ref a3] h q ∧ q.1 = none ∧ HW (mkw c0 c1 c2 c3 (sR (sR (sR (zat c4 a0) 0 a0 a1) 1 a0 a2) 2 a0 a3) c5 c6 c7 c8 c9 c10 c11 c12 c13) (own (adf (adf (adf (adf (adz (d) 2 60) a0 [.null, .null, .null, .ref (aX d + 0)]) a0 [.ref a1, .null, .null, .ref (aX d + 0)]) a0 [.ref a1, .ref a2, .null, .ref (aX d + 0)]) a0 [.ref a1, .ref a2, .ref a3, .ref (aX d + 0)]) 4 a0 (aX d) [some 3]) q.2 ∧ Adw a0 d (own (adf (adf (adf (adf (adz (d) 2 60) a0 [.null, .null, .null, .ref (aX d + 0)]) a0 [.ref a1, .null, .null, .ref (aX d + 0)]) a0 [.ref a1, .ref a2, .null, .ref (aX d + 0)]) a0 [.ref a1, .ref a2, .ref a3, .ref (aX d + 0)]) 4 a0 (aX d) [some 3]) := by
  obtain ⟨D, rfl⟩ : ∃ E, D = E + 1 := ⟨D - 1, by omega⟩
  have hd0 := hW
  have W : Adw a0 d d := Adw.of Adx.rf
  have za1 : a1 ≠ a0 := fun q => by rw [q, ha0] at ha1; cases ha1
  have za2 : a2 ≠ a0 := fun q => by rw [q, ha0] at ha2; cases ha2
  have za3 : a3 ≠ a0 := fun q => by rw [q, ha0] at ha3; cases ha3
  refine ex_in (kl := kl_36) (nL := 4) rfl (by decide +kernel) (Nat.le_of_ble_eq_true rfl) ?_
  show Ends (EX D) (u_at kl_36) (0, [some (.ref a0), some (.ref a1), some (.ref a2), some (.ref a3)], [], h) _
  have hX : aX d = aX d + 0 := rfl
  refine en_segs [(0, .aload_n 0, []), (1, .invokespecial 3, []), (4, .aload_n 0, []), (5, .bipush 60, [])] (by decide +kernel) (y := (7, [some (.ref a0), some (.ref a1), some (.ref a2), some (.ref a3)], [.int 60, .ref a0], h)) rfl ?_
  refine en_nzA (N := 60) (B := aX d) (j := 0) (by decide +kernel : u_at kl_36 7 = some (.newarray .long, [2])) hW (by decide +kernel) (by decide +kernel) rfl hX hf ha0 (fun h e0 he0 hW x k0 n0 hX hf ha0 => ?_)
  have W := W.trans (Adw.of x)
  refine en_putA (fs' := [.null, .null, .null, .ref (aX d + 0)]) (by decide +kernel : u_at kl_36 9 = some (.putfield 11, [4, 3, 3])) hW ha0 hf (Nat.le_of_ble_eq_true rfl) rfl rfl hX (fun h e1 he1 hW kq nq hX hf ha0 y => ?_)
  have W := W.trans y
  have k0 := (kq _).trans k0
  have n0 := (congrFun nq _).trans n0
  refine en_segs [(12, .aload_n 0, []), (13, .aload_n 1, [])] (by decide +kernel) (y := (14, [some (.ref a0), some (.ref a1), some (.ref a2), some (.ref a3)], [.ref a1, .ref a0], h)) rfl ?_
  refine en_putA (fs' := [.ref a1, .null, .null, .ref (aX d + 0)]) (by decide +kernel : u_at kl_36 14 = some (.putfield 17, [4, 0, 3])) hW ha0 hf (Nat.le_of_ble_eq_true rfl) rfl rfl hX (fun h e2 he2 hW kq nq hX hf ha0 y => ?_)
  have W := W.trans y
  have k0 := (kq _).trans k0
  have n0 := (congrFun nq _).trans n0
  refine en_segs [(17, .aload_n 0, []), (18, .aload_n 2, [])] (by decide +kernel) (y := (19, [some (.ref a0), some (.ref a1), some (.ref a2), some (.ref a3)], [.ref a2, .ref a0], h)) rfl ?_
  refine en_putA (fs' := [.ref a1, .ref a2, .null, .ref (aX d + 0)]) (by decide +kernel : u_at kl_36 19 = some (.putfield 21, [4, 1, 3])) hW ha0 hf (Nat.le_of_ble_eq_true rfl) rfl rfl hX (fun h e3 he3 hW kq nq hX hf ha0 y => ?_)
  have W := W.trans y
  have k0 := (kq _).trans k0
  have n0 := (congrFun nq _).trans n0
  refine en_segs [(22, .aload_n 0, []), (23, .aload_n 3, [])] (by decide +kernel) (y := (24, [some (.ref a0), some (.ref a1), some (.ref a2), some (.ref a3)], [.ref a3, .ref a0], h)) rfl ?_
  refine en_putA (fs' := [.ref a1, .ref a2, .ref a3, .ref (aX d + 0)]) (by decide +kernel : u_at kl_36 24 = some (.putfield 24, [4, 2, 3])) hW ha0 hf (Nat.le_of_ble_eq_true rfl) rfl rfl hX (fun h e4 he4 hW kq nq hX hf ha0 y => ?_)
  have W := W.trans y
  have k0 := (kq _).trans k0
  have n0 := (congrFun nq _).trans n0
  have WO := own_w (c := 4) (X := aX d) (l := [some 3]) hd0 (Nat.le_refl _) W
  have fa1 := (WO.2.1 a1 za1 (by rw [ha1]; exact fun q => by cases q)).trans ha1
  have fa2 := (WO.2.1 a2 za2 (by rw [ha2]; exact fun q => by cases q)).trans ha2
  have fa3 := (WO.2.1 a3 za3 (by rw [ha3]; exact fun q => by cases q)).trans ha3
  have hO : HW (mkw c0 c1 c2 c3 (sR (sR (sR (zat c4 a0) 0 a0 a1) 1 a0 a2) 2 a0 a3) c5 c6 c7 c8 c9 c10 c11 c12 c13) (own e4 4 a0 (aX d) [some 3]) h := by
    refine hw_own2 (c := 4) (a := a0) (X := aX d) (l := [some 3]) (x := (sR (sR (sR (zat c4 a0) 0 a0 a1) 1 a0 a2) 2 a0 a3)) hW (by decide) ha0 (by decide +kernel) (fun i k e => ?_) (fun k b g => ?_) (fun k => ?_) ?_ (fun k hk h3 => ?_)
    · rcases i with _ | i
      · cases e; exact ⟨k0, n0⟩
      · cases e
    · show cI _ k b = cI c4 k b ∧ cJ _ k b = cJ c4 k b ∧ cR _ k b = cR c4 k b ∧ cA _ k b = cA c4 k b ∧ cB _ k b = cB c4 k b ∧ cQ _ k b = cQ c4 k b
      simp [sI, sJ, sR, zat, cI, cJ, cR, cA, cB, cQ, up2, g]
    · simp [sI, sJ, sR, zat, cI, cJ, cR, cA, cB, cQ, up2]
    · rw [hf]
      show _ = ([.ref (cR (sR (sR (sR (zat c4 a0) 0 a0 a1) 1 a0 a2) 2 a0 a3) 0 a0), .ref (cR (sR (sR (sR (zat c4 a0) 0 a0 a1) 1 a0 a2) 2 a0 a3) 1 a0), .ref (cR (sR (sR (sR (zat c4 a0) 0 a0 a1) 1 a0 a2) 2 a0 a3) 2 a0), .ref (if a0 = a0 then aX d + List.idxOf (some 3) [some 3] else aP e4 4 3 a0)] : List Value)
      simp [sI, sJ, sR, zat, cI, cJ, cR, cA, cB, cQ, up2, List.idxOf, List.findIdx, List.findIdx.go]
    · rcases k with _ | _ | _ | _ | k
      · show aK _ (cR (sR (sR (sR (zat c4 a0) 0 a0 a1) 1 a0 a2) 2 a0 a3) 0 a0) = _
        have : cR (sR (sR (sR (zat c4 a0) 0 a0 a1) 1 a0 a2) 2 a0 a3) 0 a0 = a1 := by simp [sI, sJ, sR, zat, cI, cJ, cR, cA, cB, cQ, up2]
        rw [this]; exact fa1
      · show aK _ (cR (sR (sR (sR (zat c4 a0) 0 a0 a1) 1 a0 a2) 2 a0 a3) 1 a0) = _
        have : cR (sR (sR (sR (zat c4 a0) 0 a0 a1) 1 a0 a2) 2 a0 a3) 1 a0 = a2 := by simp [sI, sJ, sR, zat, cI, cJ, cR, cA, cB, cQ, up2]
        rw [this]; exact fa2
      · show aK _ (cR (sR (sR (sR (zat c4 a0) 0 a0 a1) 1 a0 a2) 2 a0 a3) 2 a0) = _
        have : cR (sR (sR (sR (zat c4 a0) 0 a0 a1) 1 a0 a2) 2 a0 a3) 2 a0 = a3 := by simp [sI, sJ, sR, zat, cI, cJ, cR, cA, cB, cQ, up2]
        rw [this]; exact fa3
      · exact absurd rfl h3
      · exact absurd hk (Nat.not_lt.mpr (Nat.le_add_left _ _))
  exact en_ret (by decide +kernel : u_at kl_36 27 = some (.return_, [])) rfl (by subst he4 he3 he2 he1 he0; exact ⟨rfl, hO, WO⟩)
set_option maxRecDepth 100000 in
set_option maxHeartbeats 4000000 in
theorem e_62 {D : Nat} {c0 c1 c2 c3 c4 c5 c6 c7 c8 c9 c10 c11 c12 c13 : Cl} {d : Ad} {h : UH} {a0 a1 : Nat} (hD : 1 ≤ D) (hW : HW (mkw c0 c1 c2 c3 c4 c5 c6 c7 c8 c9 c10 c11 c12 c13) d h) (ha0 : aK d a0 = (3, 7, 0)) (hf : aF d a0 = [.null, .int 0, .long 0, .int 0, .int 0, .int 0, .null, .null, .int 0, .int 0, .int 0, .int 0, .int 0]) (ha1 : aK d a1 = (0, 6, 0)) : ∃ q, EX D 62 [.ref a0, .ref a1] h q ∧ q.1 = none ∧ HW (mkw c0 c1 c2 c3 c4 c5 c6 (sR (zat c7 a0) 0 a0 a1) c8 c9 c10 c11 c12 c13) (own (adf (adf (adz (adf (adz (d) 1 6) a0 [.null, .int 0, .long 0, .int 0, .int 0, .int 0, .ref (aX d + 0), .null, .int 0, .int 0, .int 0, .int 0, .int 0]) 1 150) a0 [.null, .int 0, .long 0, .int 0, .int 0, .int 0, .ref (aX d + 0), .ref (aX d + 1), .int 0, .int 0, .int 0, .int 0, .int 0]) a0 [.ref a1, .int 0, .long 0, .int 0, .int 0, .int 0, .ref (aX d + 0), .ref (aX d + 1), .int 0, .int 0, .int 0, .int 0, .int 0]) 7 a0 (aX d) [some 6, some 7]) q.2 ∧ Adw a0 d (own (adf (adf (adz (adf (adz (d) 1 6) a0 [.null, .int 0, .long 0, .int 0, .int 0, .int 0, .ref (aX d + 0), .null, .int 0, .int 0, .int 0, .int 0, .int 0]) 1 150) a0 [.null, .int 0, .long 0, .int 0, .int 0, .int 0, .ref (aX d + 0), .ref (aX d + 1), .int 0, .int 0, .int 0, .int 0, .int 0]) a0 [.ref a1, .int 0, .long 0, .int 0, .int 0, .int 0, .ref (aX d + 0), .ref (aX d + 1), .int 0, .int 0, .int 0, .int 0, .int 0]) 7 a0 (aX d) [some 6, some 7]) := by
  obtain ⟨D, rfl⟩ : ∃ E, D = E + 1 := ⟨D - 1, by omega⟩
  have hd0 := hW
  have W : Adw a0 d d := Adw.of Adx.rf
  have za1 : a1 ≠ a0 := fun q => by rw [q, ha0] at ha1; cases ha1
  refine ex_in (kl := kl_62) (nL := 2) rfl (by decide +kernel) (Nat.le_of_ble_eq_true rfl) ?_
  show Ends (EX D) (u_at kl_62) (0, [some (.ref a0), some (.ref a1)], [], h) _
  have hX : aX d = aX d + 0 := rfl
  refine en_segs [(0, .aload_n 0, []), (1, .invokespecial 3, []), (4, .aload_n 0, []), (5, .bipush 6, [])] (by decide +kernel) (y := (7, [some (.ref a0), some (.ref a1)], [.int 6, .ref a0], h)) rfl ?_
  refine en_nzA (N := 6) (B := aX d) (j := 0) (by decide +kernel : u_at kl_62 7 = some (.newarray .int, [1])) hW (by decide +kernel) (by decide +kernel) rfl hX hf ha0 (fun h e0 he0 hW x k0 n0 hX hf ha0 => ?_)
  have W := W.trans (Adw.of x)
  refine en_putA (fs' := [.null, .int 0, .long 0, .int 0, .int 0, .int 0, .ref (aX d + 0), .null, .int 0, .int 0, .int 0, .int 0, .int 0]) (by decide +kernel : u_at kl_62 9 = some (.putfield 9, [7, 6, 3])) hW ha0 hf (Nat.le_of_ble_eq_true rfl) rfl rfl hX (fun h e1 he1 hW kq nq hX hf ha0 y => ?_)
  have W := W.trans y
  have k0 := (kq _).trans k0
  have n0 := (congrFun nq _).trans n0
  refine en_segs [(12, .aload_n 0, []), (13, .sipush 150, [])] (by decide +kernel) (y := (16, [some (.ref a0), some (.ref a1)], [.int 150, .ref a0], h)) rfl ?_
  refine en_nzA (N := 150) (B := aX d) (j := 1) (by decide +kernel : u_at kl_62 16 = some (.newarray .int, [1])) hW (by decide +kernel) (by decide +kernel) rfl hX hf ha0 (fun h e2 he2 hW x k1 n1 hX hf ha0 => ?_)
  have n0 := (x.2.2.2.2.2.2.2 _ _ k0).trans n0
  have k0 := x.z k0
  have W := W.trans (Adw.of x)
  refine en_putA (fs' := [.null, .int 0, .long 0, .int 0, .int 0, .int 0, .ref (aX d + 0), .ref (aX d + 1), .int 0, .int 0, .int 0, .int 0, .int 0]) (by decide +kernel : u_at kl_62 18 = some (.putfield 15, [7, 7, 3])) hW ha0 hf (Nat.le_of_ble_eq_true rfl) rfl rfl hX (fun h e3 he3 hW kq nq hX hf ha0 y => ?_)
  have W := W.trans y
  have k0 := (kq _).trans k0
  have n0 := (congrFun nq _).trans n0
  have k1 := (kq _).trans k1
  have n1 := (congrFun nq _).trans n1
  refine en_segs [(21, .aload_n 0, []), (22, .aload_n 1, [])] (by decide +kernel) (y := (23, [some (.ref a0), some (.ref a1)], [.ref a1, .ref a0], h)) rfl ?_
  refine en_putA (fs' := [.ref a1, .int 0, .long 0, .int 0, .int 0, .int 0, .ref (aX d + 0), .ref (aX d + 1), .int 0, .int 0, .int 0, .int 0, .int 0]) (by decide +kernel : u_at kl_62 23 = some (.putfield 18, [7, 0, 3])) hW ha0 hf (Nat.le_of_ble_eq_true rfl) rfl rfl hX (fun h e4 he4 hW kq nq hX hf ha0 y => ?_)
  have W := W.trans y
  have k0 := (kq _).trans k0
  have n0 := (congrFun nq _).trans n0
  have k1 := (kq _).trans k1
  have n1 := (congrFun nq _).trans n1
  have WO := own_w (c := 7) (X := aX d) (l := [some 6, some 7]) hd0 (Nat.le_refl _) W
  have fa1 := (WO.2.1 a1 za1 (by rw [ha1]; exact fun q => by cases q)).trans ha1
  have hO : HW (mkw c0 c1 c2 c3 c4 c5 c6 (sR (zat c7 a0) 0 a0 a1) c8 c9 c10 c11 c12 c13) (own e4 7 a0 (aX d) [some 6, some 7]) h := by
    refine hw_own2 (c := 7) (a := a0) (X := aX d) (l := [some 6, some 7]) (x := (sR (zat c7 a0) 0 a0 a1)) hW (by decide) ha0 (by decide +kernel) (fun i k e => ?_) (fun k b g => ?_) (fun k => ?_) ?_ (fun k hk h3 => ?_)
    · rcases i with _ | _ | i
      · cases e; exact ⟨k0, n0⟩
      · cases e; exact ⟨k1, n1⟩
      · cases e
    · show cI _ k b = cI c7 k b ∧ cJ _ k b = cJ c7 k b ∧ cR _ k b = cR c7 k b ∧ cA _ k b = cA c7 k b ∧ cB _ k b = cB c7 k b ∧ cQ _ k b = cQ c7 k b
      simp [sI, sJ, sR, zat, cI, cJ, cR, cA, cB, cQ, up2, g]
    · simp [sI, sJ, sR, zat, cI, cJ, cR, cA, cB, cQ, up2]
    · rw [hf]
      show _ = ([.ref (cR (sR (zat c7 a0) 0 a0 a1) 0 a0), .int (cI (sR (zat c7 a0) 0 a0 a1) 1 a0), .long (cJ (sR (zat c7 a0) 0 a0 a1) 2 a0), .int (cI (sR (zat c7 a0) 0 a0 a1) 3 a0), .int (cI (sR (zat c7 a0) 0 a0 a1) 4 a0), .int (cI (sR (zat c7 a0) 0 a0 a1) 5 a0), .ref (if a0 = a0 then aX d + List.idxOf (some 6) [some 6, some 7] else aP e4 7 6 a0), .ref (if a0 = a0 then aX d + List.idxOf (some 7) [some 6, some 7] else aP e4 7 7 a0), .int (cI (sR (zat c7 a0) 0 a0 a1) 8 a0), .int (cI (sR (zat c7 a0) 0 a0 a1) 9 a0), .int (cI (sR (zat c7 a0) 0 a0 a1) 10 a0), .int (cI (sR (zat c7 a0) 0 a0 a1) 11 a0), .int (cI (sR (zat c7 a0) 0 a0 a1) 12 a0)] : List Value)
      simp [sI, sJ, sR, zat, cI, cJ, cR, cA, cB, cQ, up2, List.idxOf, List.findIdx, List.findIdx.go]
    · rcases k with _ | _ | _ | _ | _ | _ | _ | _ | _ | _ | _ | _ | _ | k
      · show aK _ (cR (sR (zat c7 a0) 0 a0 a1) 0 a0) = _
        have : cR (sR (zat c7 a0) 0 a0 a1) 0 a0 = a1 := by simp [sI, sJ, sR, zat, cI, cJ, cR, cA, cB, cQ, up2]
        rw [this]; exact fa1
      · exact True.intro
      · exact True.intro
      · exact True.intro
      · exact True.intro
      · exact True.intro
      · exact absurd rfl h3
      · exact absurd rfl h3
      · exact True.intro
      · exact True.intro
      · exact True.intro
      · exact True.intro
      · exact True.intro
      · exact absurd hk (Nat.not_lt.mpr (Nat.le_add_left _ _))
  exact en_ret (by decide +kernel : u_at kl_62 26 = some (.return_, [])) rfl (by subst he4 he3 he2 he1 he0; exact ⟨rfl, hO, WO⟩)
set_option maxRecDepth 100000 in
set_option maxHeartbeats 4000000 in
theorem e_80 {D : Nat} {c0 c1 c2 c3 c4 c5 c6 c7 c8 c9 c10 c11 c12 c13 : Cl} {d : Ad} {h : UH} {a0 a1 : Nat} (hD : 1 ≤ D) (hW : HW (mkw c0 c1 c2 c3 c4 c5 c6 c7 c8 c9 c10 c11 c12 c13) d h) (ha0 : aK d a0 = (3, 8, 0)) (hf : aF d a0 = [.null, .int 0, .int 0, .int 0, .null, .null, .null, .null, .null, .null, .null, .null, .null, .null]) (ha1 : aK d a1 = (0, 1, 0)) : ∃ q, EX D 80 [.ref a0, .ref a1] h q ∧ q.1 = none ∧ HW (mkw c0 c1 c2 c3 c4 c5 c6 c7 (sR (zat c8 a0) 0 a0 a1) c9 c10 c11 c12 c13) (own (adf (adf (adz (adf (adz (adf (adz (adf (adz (adf (adz (adf (adz (adf (adz (adf (adz (adf (adz (adf (adz (d) 1 6) a0 [.null, .int 0, .int 0, .int 0, .ref (aX d + 0), .null, .null, .null, .null, .null, .null, .null, .null, .null]) 1 6) a0 [.null, .int 0, .int 0, .int 0, .ref (aX d + 0), .ref (aX d + 1), .null, .null, .null, .null, .null, .null, .null, .null]) 1 6) a0 [.null, .int 0, .int 0, .int 0, .ref (aX d + 0), .ref (aX d + 1), .ref (aX d + 2), .null, .null, .null, .null, .null, .null, .null]) 1 6) a0 [.null, .int 0, .int 0, .int 0, .ref (aX d + 0), .ref (aX d + 1), .ref (aX d + 2), .ref (aX d + 3), .null, .null, .null, .null, .null, .null]) 1 6) a0 [.null, .int 0, .int 0, .int 0, .ref (aX d + 0), .ref (aX d + 1), .ref (aX d + 2), .ref (aX d + 3), .ref (aX d + 4), .null, .null, .null, .null, .null]) 1 6) a0 [.null, .int 0, .int 0, .int 0, .ref (aX d + 0), .ref (aX d + 1), .ref (aX d + 2), .ref (aX d + 3), .ref (aX d + 4), .ref (aX d + 5), .null, .null, .null, .null]) 1 6) a0 [.null, .int 0, .int 0, .int 0, .ref (aX d + 0), .ref (aX d + 1), .ref (aX d + 2), .ref (aX d + 3), .ref (aX d + 4), .ref (aX d + 5), .ref (aX d + 6), .null, .null, .null]) 1 6) a0 [.null, .int 0, .int 0, .int 0, .ref (aX d + 0), .ref (aX d + 1), .ref (aX d + 2), .ref (aX d + 3), .ref (aX d + 4), .ref (aX d + 5), .ref (aX d + 6), .ref (aX d + 7), .null, .null]) 1 6) a0 [.null, .int 0, .int 0, .int 0, .ref (aX d + 0), .ref (aX d + 1), .ref (aX d + 2), .ref (aX d + 3), .ref (aX d + 4), .ref (aX d + 5), .ref (aX d + 6), .ref (aX d + 7), .ref (aX d + 8), .null]) 1 60) a0 [.null, .int 0, .int 0, .int 0, .ref (aX d + 0), .ref (aX d + 1), .ref (aX d + 2), .ref (aX d + 3), .ref (aX d + 4), .ref (aX d + 5), .ref (aX d + 6), .ref (aX d + 7), .ref (aX d + 8), .ref (aX d + 9)]) a0 [.ref a1, .int 0, .int 0, .int 0, .ref (aX d + 0), .ref (aX d + 1), .ref (aX d + 2), .ref (aX d + 3), .ref (aX d + 4), .ref (aX d + 5), .ref (aX d + 6), .ref (aX d + 7), .ref (aX d + 8), .ref (aX d + 9)]) 8 a0 (aX d) [some 4, some 5, some 6, some 7, some 8, some 9, some 10, some 11, some 12, some 13]) q.2 ∧ Adw a0 d (own (adf (adf (adz (adf (adz (adf (adz (adf (adz (adf (adz (adf (adz (adf (adz (adf (adz (adf (adz (adf (adz (d) 1 6) a0 [.null, .int 0, .int 0, .int 0, .ref (aX d + 0), .null, .null, .null, .null, .null, .null, .null, .null, .null]) 1 6) a0 [.null, .int 0, .int 0, .int 0, .ref (aX d + 0), .ref (aX d + 1), .null, .null, .null, .null, .null, .null, .null, .null]) 1 6) a0 [.null, .int 0, .int 0, .int 0, .ref (aX d + 0), .ref (aX d + 1), .ref (aX d + 2), .null, .null, .null, .null, .null, .null, .null]) 1 6) a0 [.null, .int 0, .int 0, .int 0, .ref (aX d + 0), .ref (aX d + 1), .ref (aX d + 2), .ref (aX d + 3), .null, .null, .null, .null, .null, .null]) 1 6) a0 [.null, .int 0, .int 0, .int 0, .ref (aX d + 0), .ref (aX d + 1), .ref (aX d + 2), .ref (aX d + 3), .ref (aX d + 4), .null, .null, .null, .null, .null]) 1 6) a0 [.null, .int 0, .int 0, .int 0, .ref (aX d + 0), .ref (aX d + 1), .ref (aX d + 2), .ref (aX d + 3), .ref (aX d + 4), .ref (aX d + 5), .null, .null, .null, .null]) 1 6) a0 [.null, .int 0, .int 0, .int 0, .ref (aX d + 0), .ref (aX d + 1), .ref (aX d + 2), .ref (aX d + 3), .ref (aX d + 4), .ref (aX d + 5), .ref (aX d + 6), .null, .null, .null]) 1 6) a0 [.null, .int 0, .int 0, .int 0, .ref (aX d + 0), .ref (aX d + 1), .ref (aX d + 2), .ref (aX d + 3), .ref (aX d + 4), .ref (aX d + 5), .ref (aX d + 6), .ref (aX d + 7), .null, .null]) 1 6) a0 [.null, .int 0, .int 0, .int 0, .ref (aX d + 0), .ref (aX d + 1), .ref (aX d + 2), .ref (aX d + 3), .ref (aX d + 4), .ref (aX d + 5), .ref (aX d + 6), .ref (aX d + 7), .ref (aX d + 8), .null]) 1 60) a0 [.null, .int 0, .int 0, .int 0, .ref (aX d + 0), .ref (aX d + 1), .ref (aX d + 2), .ref (aX d + 3), .ref (aX d + 4), .ref (aX d + 5), .ref (aX d + 6), .ref (aX d + 7), .ref (aX d + 8), .ref (aX d + 9)]) a0 [.ref a1, .int 0, .int 0, .int 0, .ref (aX d + 0), .ref (aX d + 1), .ref (aX d + 2), .ref (aX d + 3), .ref (aX d + 4), .ref (aX d + 5), .ref (aX d + 6), .ref (aX d + 7), .ref (aX d + 8), .ref (aX d + 9)]) 8 a0 (aX d) [some 4, some 5, some 6, some 7, some 8, some 9, some 10, some 11, some 12, some 13]) := by
  obtain ⟨D, rfl⟩ : ∃ E, D = E + 1 := ⟨D - 1, by omega⟩
  have hd0 := hW
  have W : Adw a0 d d := Adw.of Adx.rf
  have za1 : a1 ≠ a0 := fun q => by rw [q, ha0] at ha1; cases ha1
  refine ex_in (kl := kl_80) (nL := 2) rfl (by decide +kernel) (Nat.le_of_ble_eq_true rfl) ?_
  show Ends (EX D) (u_at kl_80) (0, [some (.ref a0), some (.ref a1)], [], h) _
  have hX : aX d = aX d + 0 := rfl
  refine en_segs [(0, .aload_n 0, []), (1, .invokespecial 3, []), (4, .aload_n 0, []), (5, .bipush 6, [])] (by decide +kernel) (y := (7, [some (.ref a0), some (.ref a1)], [.int 6, .ref a0], h)) rfl ?_
  refine en_nzA (N := 6) (B := aX d) (j := 0) (by decide +kernel : u_at kl_80 7 = some (.newarray .int, [1])) hW (by decide +kernel) (by decide +kernel) rfl hX hf ha0 (fun h e0 he0 hW x k0 n0 hX hf ha0 => ?_)
  have W := W.trans (Adw.of x)
  refine en_putA (fs' := [.null, .int 0, .int 0, .int 0, .ref (aX d + 0), .null, .null, .null, .null, .null, .null, .null, .null, .null]) (by decide +kernel : u_at kl_80 9 = some (.putfield 9, [8, 4, 3])) hW ha0 hf (Nat.le_of_ble_eq_true rfl) rfl rfl hX (fun h e1 he1 hW kq nq hX hf ha0 y => ?_)
  have W := W.trans y
  have k0 := (kq _).trans k0
  have n0 := (congrFun nq _).trans n0
  refine en_segs [(12, .aload_n 0, []), (13, .bipush 6, [])] (by decide +kernel) (y := (15, [some (.ref a0), some (.ref a1)], [.int 6, .ref a0], h)) rfl ?_
  refine en_nzA (N := 6) (B := aX d) (j := 1) (by decide +kernel : u_at kl_80 15 = some (.newarray .int, [1])) hW (by decide +kernel) (by decide +kernel) rfl hX hf ha0 (fun h e2 he2 hW x k1 n1 hX hf ha0 => ?_)
  have n0 := (x.2.2.2.2.2.2.2 _ _ k0).trans n0
  have k0 := x.z k0
  have W := W.trans (Adw.of x)
  refine en_putA (fs' := [.null, .int 0, .int 0, .int 0, .ref (aX d + 0), .ref (aX d + 1), .null, .null, .null, .null, .null, .null, .null, .null]) (by decide +kernel : u_at kl_80 17 = some (.putfield 15, [8, 5, 3])) hW ha0 hf (Nat.le_of_ble_eq_true rfl) rfl rfl hX (fun h e3 he3 hW kq nq hX hf ha0 y => ?_)
  have W := W.trans y
  have k0 := (kq _).trans k0
  have n0 := (congrFun nq _).trans n0
  have k1 := (kq _).trans k1
  have n1 := (congrFun nq _).trans n1
  refine en_segs [(20, .aload_n 0, []), (21, .bipush 6, [])] (by decide +kernel) (y := (23, [some (.ref a0), some (.ref a1)], [.int 6, .ref a0], h)) rfl ?_
  refine en_nzA (N := 6) (B := aX d) (j := 2) (by decide +kernel : u_at kl_80 23 = some (.newarray .int, [1])) hW (by decide +kernel) (by decide +kernel) rfl hX hf ha0 (fun h e4 he4 hW x k2 n2 hX hf ha0 => ?_)
  have n0 := (x.2.2.2.2.2.2.2 _ _ k0).trans n0
  have k0 := x.z k0
  have n1 := (x.2.2.2.2.2.2.2 _ _ k1).trans n1
  have k1 := x.z k1
  have W := W.trans (Adw.of x)
  refine en_putA (fs' := [.null, .int 0, .int 0, .int 0, .ref (aX d + 0), .ref (aX d + 1), .ref (aX d + 2), .null, .null, .null, .null, .null, .null, .null]) (by decide +kernel : u_at kl_80 25 = some (.putfield 18, [8, 6, 3])) hW ha0 hf (Nat.le_of_ble_eq_true rfl) rfl rfl hX (fun h e5 he5 hW kq nq hX hf ha0 y => ?_)
  have W := W.trans y
  have k0 := (kq _).trans k0
  have n0 := (congrFun nq _).trans n0
  have k1 := (kq _).trans k1
  have n1 := (congrFun nq _).trans n1
  have k2 := (kq _).trans k2
  have n2 := (congrFun nq _).trans n2
  refine en_segs [(28, .aload_n 0, []), (29, .bipush 6, [])] (by decide +kernel) (y := (31, [some (.ref a0), some (.ref a1)], [.int 6, .ref a0], h)) rfl ?_
  refine en_nzA (N := 6) (B := aX d) (j := 3) (by decide +kernel : u_at kl_80 31 = some (.newarray .int, [1])) hW (by decide +kernel) (by decide +kernel) rfl hX hf ha0 (fun h e6 he6 hW x k3 n3 hX hf ha0 => ?_)
  have n0 := (x.2.2.2.2.2.2.2 _ _ k0).trans n0
  have k0 := x.z k0
  have n1 := (x.2.2.2.2.2.2.2 _ _ k1).trans n1
  have k1 := x.z k1
  have n2 := (x.2.2.2.2.2.2.2 _ _ k2).trans n2
  have k2 := x.z k2
  have W := W.trans (Adw.of x)
  refine en_putA (fs' := [.null, .int 0, .int 0, .int 0, .ref (aX d + 0), .ref (aX d + 1), .ref (aX d + 2), .ref (aX d + 3), .null, .null, .null, .null, .null, .null]) (by decide +kernel : u_at kl_80 33 = some (.putfield 21, [8, 7, 3])) hW ha0 hf (Nat.le_of_ble_eq_true rfl) rfl rfl hX (fun h e7 he7 hW kq nq hX hf ha0 y => ?_)
  have W := W.trans y
  have k0 := (kq _).trans k0
  have n0 := (congrFun nq _).trans n0
  have k1 := (kq _).trans k1
  have n1 := (congrFun nq _).trans n1
  have k2 := (kq _).trans k2
  have n2 := (congrFun nq _).trans n2
  have k3 := (kq _).trans k3
  have n3 := (congrFun nq _).trans n3
  refine en_segs [(36, .aload_n 0, []), (37, .bipush 6, [])] (by decide +kernel) (y := (39, [some (.ref a0), some (.ref a1)], [.int 6, .ref a0], h)) rfl ?_
  refine en_nzA (N := 6) (B := aX d) (j := 4) (by decide +kernel : u_at kl_80 39 = some (.newarray .int, [1])) hW (by decide +kernel) (by decide +kernel) rfl hX hf ha0 (fun h e8 he8 hW x k4 n4 hX hf ha0 => ?_)
  have n0 := (x.2.2.2.2.2.2.2 _ _ k0).trans n0
  have k0 := x.z k0
  have n1 := (x.2.2.2.2.2.2.2 _ _ k1).trans n1
  have k1 := x.z k1
  have n2 := (x.2.2.2.2.2.2.2 _ _ k2).trans n2
  have k2 := x.z k2
  have n3 := (x.2.2.2.2.2.2.2 _ _ k3).trans n3
  have k3 := x.z k3
  have W := W.trans (Adw.of x)
  refine en_putA (fs' := [.null, .int 0, .int 0, .int 0, .ref (aX d + 0), .ref (aX d + 1), .ref (aX d + 2), .ref (aX d + 3), .ref (aX d + 4), .null, .null, .null, .null, .null]) (by decide +kernel : u_at kl_80 41 = some (.putfield 24, [8, 8, 3])) hW ha0 hf (Nat.le_of_ble_eq_true rfl) rfl rfl hX (fun h e9 he9 hW kq nq hX hf ha0 y => ?_)
  have W := W.trans y
  have k0 := (kq _).trans k0
  have n0 := (congrFun nq _).trans n0
  have k1 := (kq _).trans k1
  have n1 := (congrFun nq _).trans n1
  have k2 := (kq _).trans k2
  have n2 := (congrFun nq _).trans n2
  have k3 := (kq _).trans k3
  have n3 := (congrFun nq _).trans n3
  have k4 := (kq _).trans k4
  have n4 := (congrFun nq _).trans n4
  refine en_segs [(44, .aload_n 0, []), (45, .bipush 6, [])] (by decide +kernel) (y := (47, [some (.ref a0), some (.ref a1)], [.int 6, .ref a0], h)) rfl ?_
  refine en_nzA (N := 6) (B := aX d) (j := 5) (by decide +kernel : u_at kl_80 47 = some (.newarray .int, [1])) hW (by decide +kernel) (by decide +kernel) rfl hX hf ha0 (fun h e10 he10 hW x k5 n5 hX hf ha0 => ?_)
  have n0 := (x.2.2.2.2.2.2.2 _ _ k0).trans n0
  have k0 := x.z k0
  have n1 := (x.2.2.2.2.2.2.2 _ _ k1).trans n1
  have k1 := x.z k1
  have n2 := (x.2.2.2.2.2.2.2 _ _ k2).trans n2
  have k2 := x.z k2
  have n3 := (x.2.2.2.2.2.2.2 _ _ k3).trans n3
  have k3 := x.z k3
  have n4 := (x.2.2.2.2.2.2.2 _ _ k4).trans n4
  have k4 := x.z k4
  have W := W.trans (Adw.of x)
  refine en_putA (fs' := [.null, .int 0, .int 0, .int 0, .ref (aX d + 0), .ref (aX d + 1), .ref (aX d + 2), .ref (aX d + 3), .ref (aX d + 4), .ref (aX d + 5), .null, .null, .null, .null]) (by decide +kernel : u_at kl_80 49 = some (.putfield 27, [8, 9, 3])) hW ha0 hf (Nat.le_of_ble_eq_true rfl) rfl rfl hX (fun h e11 he11 hW kq nq hX hf ha0 y => ?_)
  have W := W.trans y
  have k0 := (kq _).trans k0
  have n0 := (congrFun nq _).trans n0
  have k1 := (kq _).trans k1
  have n1 := (congrFun nq _).trans n1
  have k2 := (kq _).trans k2
  have n2 := (congrFun nq _).trans n2
  have k3 := (kq _).trans k3
  have n3 := (congrFun nq _).trans n3
  have k4 := (kq _).trans k4
  have n4 := (congrFun nq _).trans n4
  have k5 := (kq _).trans k5
  have n5 := (congrFun nq _).trans n5
  refine en_segs [(52, .aload_n 0, []), (53, .bipush 6, [])] (by decide +kernel) (y := (55, [some (.ref a0), some (.ref a1)], [.int 6, .ref a0], h)) rfl ?_
  refine en_nzA (N := 6) (B := aX d) (j := 6) (by decide +kernel : u_at kl_80 55 = some (.newarray .int, [1])) hW (by decide +kernel) (by decide +kernel) rfl hX hf ha0 (fun h e12 he12 hW x k6 n6 hX hf ha0 => ?_)
  have n0 := (x.2.2.2.2.2.2.2 _ _ k0).trans n0
  have k0 := x.z k0
  have n1 := (x.2.2.2.2.2.2.2 _ _ k1).trans n1
  have k1 := x.z k1
  have n2 := (x.2.2.2.2.2.2.2 _ _ k2).trans n2
  have k2 := x.z k2
  have n3 := (x.2.2.2.2.2.2.2 _ _ k3).trans n3
  have k3 := x.z k3
  have n4 := (x.2.2.2.2.2.2.2 _ _ k4).trans n4
  have k4 := x.z k4
  have n5 := (x.2.2.2.2.2.2.2 _ _ k5).trans n5
  have k5 := x.z k5
  have W := W.trans (Adw.of x)
  refine en_putA (fs' := [.null, .int 0, .int 0, .int 0, .ref (aX d + 0), .ref (aX d + 1), .ref (aX d + 2), .ref (aX d + 3), .ref (aX d + 4), .ref (aX d + 5), .ref (aX d + 6), .null, .null, .null]) (by decide +kernel : u_at kl_80 57 = some (.putfield 30, [8, 10, 3])) hW ha0 hf (Nat.le_of_ble_eq_true rfl) rfl rfl hX (fun h e13 he13 hW kq nq hX hf ha0 y => ?_)
  have W := W.trans y
  have k0 := (kq _).trans k0
  have n0 := (congrFun nq _).trans n0
  have k1 := (kq _).trans k1
  have n1 := (congrFun nq _).trans n1
  have k2 := (kq _).trans k2
  have n2 := (congrFun nq _).trans n2
  have k3 := (kq _).trans k3
  have n3 := (congrFun nq _).trans n3
  have k4 := (kq _).trans k4
  have n4 := (congrFun nq _).trans n4
  have k5 := (kq _).trans k5
  have n5 := (congrFun nq _).trans n5
  have k6 := (kq _).trans k6
  have n6 := (congrFun nq _).trans n6
  refine en_segs [(60, .aload_n 0, []), (61, .bipush 6, [])] (by decide +kernel) (y := (63, [some (.ref a0), some (.ref a1)], [.int 6, .ref a0], h)) rfl ?_
  refine en_nzA (N := 6) (B := aX d) (j := 7) (by decide +kernel : u_at kl_80 63 = some (.newarray .int, [1])) hW (by decide +kernel) (by decide +kernel) rfl hX hf ha0 (fun h e14 he14 hW x k7 n7 hX hf ha0 => ?_)
  have n0 := (x.2.2.2.2.2.2.2 _ _ k0).trans n0
  have k0 := x.z k0
  have n1 := (x.2.2.2.2.2.2.2 _ _ k1).trans n1
  have k1 := x.z k1
  have n2 := (x.2.2.2.2.2.2.2 _ _ k2).trans n2
  have k2 := x.z k2
  have n3 := (x.2.2.2.2.2.2.2 _ _ k3).trans n3
  have k3 := x.z k3
  have n4 := (x.2.2.2.2.2.2.2 _ _ k4).trans n4
  have k4 := x.z k4
  have n5 := (x.2.2.2.2.2.2.2 _ _ k5).trans n5
  have k5 := x.z k5
  have n6 := (x.2.2.2.2.2.2.2 _ _ k6).trans n6
  have k6 := x.z k6
  have W := W.trans (Adw.of x)
  refine en_putA (fs' := [.null, .int 0, .int 0, .int 0, .ref (aX d + 0), .ref (aX d + 1), .ref (aX d + 2), .ref (aX d + 3), .ref (aX d + 4), .ref (aX d + 5), .ref (aX d + 6), .ref (aX d + 7), .null, .null]) (by decide +kernel : u_at kl_80 65 = some (.putfield 33, [8, 11, 3])) hW ha0 hf (Nat.le_of_ble_eq_true rfl) rfl rfl hX (fun h e15 he15 hW kq nq hX hf ha0 y => ?_)
  have W := W.trans y
  have k0 := (kq _).trans k0
  have n0 := (congrFun nq _).trans n0
  have k1 := (kq _).trans k1
  have n1 := (congrFun nq _).trans n1
  have k2 := (kq _).trans k2
  have n2 := (congrFun nq _).trans n2
  have k3 := (kq _).trans k3
  have n3 := (congrFun nq _).trans n3
  have k4 := (kq _).trans k4
  have n4 := (congrFun nq _).trans n4
  have k5 := (kq _).trans k5
  have n5 := (congrFun nq _).trans n5
  have k6 := (kq _).trans k6
  have n6 := (congrFun nq _).trans n6
  have k7 := (kq _).trans k7
  have n7 := (congrFun nq _).trans n7
  refine en_segs [(68, .aload_n 0, []), (69, .bipush 6, [])] (by decide +kernel) (y := (71, [some (.ref a0), some (.ref a1)], [.int 6, .ref a0], h)) rfl ?_
  refine en_nzA (N := 6) (B := aX d) (j := 8) (by decide +kernel : u_at kl_80 71 = some (.newarray .int, [1])) hW (by decide +kernel) (by decide +kernel) rfl hX hf ha0 (fun h e16 he16 hW x k8 n8 hX hf ha0 => ?_)
  have n0 := (x.2.2.2.2.2.2.2 _ _ k0).trans n0
  have k0 := x.z k0
  have n1 := (x.2.2.2.2.2.2.2 _ _ k1).trans n1
  have k1 := x.z k1
  have n2 := (x.2.2.2.2.2.2.2 _ _ k2).trans n2
  have k2 := x.z k2
  have n3 := (x.2.2.2.2.2.2.2 _ _ k3).trans n3
  have k3 := x.z k3
  have n4 := (x.2.2.2.2.2.2.2 _ _ k4).trans n4
  have k4 := x.z k4
  have n5 := (x.2.2.2.2.2.2.2 _ _ k5).trans n5
  have k5 := x.z k5
  have n6 := (x.2.2.2.2.2.2.2 _ _ k6).trans n6
  have k6 := x.z k6
  have n7 := (x.2.2.2.2.2.2.2 _ _ k7).trans n7
  have k7 := x.z k7
  have W := W.trans (Adw.of x)
  refine en_putA (fs' := [.null, .int 0, .int 0, .int 0, .ref (aX d + 0), .ref (aX d + 1), .ref (aX d + 2), .ref (aX d + 3), .ref (aX d + 4), .ref (aX d + 5), .ref (aX d + 6), .ref (aX d + 7), .ref (aX d + 8), .null]) (by decide +kernel : u_at kl_80 73 = some (.putfield 36, [8, 12, 3])) hW ha0 hf (Nat.le_of_ble_eq_true rfl) rfl rfl hX (fun h e17 he17 hW kq nq hX hf ha0 y => ?_)
  have W := W.trans y
  have k0 := (kq _).trans k0
  have n0 := (congrFun nq _).trans n0
  have k1 := (kq _).trans k1
  have n1 := (congrFun nq _).trans n1
  have k2 := (kq _).trans k2
  have n2 := (congrFun nq _).trans n2
  have k3 := (kq _).trans k3
  have n3 := (congrFun nq _).trans n3
  have k4 := (kq _).trans k4
  have n4 := (congrFun nq _).trans n4
  have k5 := (kq _).trans k5
  have n5 := (congrFun nq _).trans n5
  have k6 := (kq _).trans k6
  have n6 := (congrFun nq _).trans n6
  have k7 := (kq _).trans k7
  have n7 := (congrFun nq _).trans n7
  have k8 := (kq _).trans k8
  have n8 := (congrFun nq _).trans n8
  refine en_segs [(76, .aload_n 0, []), (77, .bipush 60, [])] (by decide +kernel) (y := (79, [some (.ref a0), some (.ref a1)], [.int 60, .ref a0], h)) rfl ?_
  refine en_nzA (N := 60) (B := aX d) (j := 9) (by decide +kernel : u_at kl_80 79 = some (.newarray .int, [1])) hW (by decide +kernel) (by decide +kernel) rfl hX hf ha0 (fun h e18 he18 hW x k9 n9 hX hf ha0 => ?_)
  have n0 := (x.2.2.2.2.2.2.2 _ _ k0).trans n0
  have k0 := x.z k0
  have n1 := (x.2.2.2.2.2.2.2 _ _ k1).trans n1
  have k1 := x.z k1
  have n2 := (x.2.2.2.2.2.2.2 _ _ k2).trans n2
  have k2 := x.z k2
  have n3 := (x.2.2.2.2.2.2.2 _ _ k3).trans n3
  have k3 := x.z k3
  have n4 := (x.2.2.2.2.2.2.2 _ _ k4).trans n4
  have k4 := x.z k4
  have n5 := (x.2.2.2.2.2.2.2 _ _ k5).trans n5
  have k5 := x.z k5
  have n6 := (x.2.2.2.2.2.2.2 _ _ k6).trans n6
  have k6 := x.z k6
  have n7 := (x.2.2.2.2.2.2.2 _ _ k7).trans n7
  have k7 := x.z k7
  have n8 := (x.2.2.2.2.2.2.2 _ _ k8).trans n8
  have k8 := x.z k8
  have W := W.trans (Adw.of x)
  refine en_putA (fs' := [.null, .int 0, .int 0, .int 0, .ref (aX d + 0), .ref (aX d + 1), .ref (aX d + 2), .ref (aX d + 3), .ref (aX d + 4), .ref (aX d + 5), .ref (aX d + 6), .ref (aX d + 7), .ref (aX d + 8), .ref (aX d + 9)]) (by decide +kernel : u_at kl_80 81 = some (.putfield 39, [8, 13, 3])) hW ha0 hf (Nat.le_of_ble_eq_true rfl) rfl rfl hX (fun h e19 he19 hW kq nq hX hf ha0 y => ?_)
  have W := W.trans y
  have k0 := (kq _).trans k0
  have n0 := (congrFun nq _).trans n0
  have k1 := (kq _).trans k1
  have n1 := (congrFun nq _).trans n1
  have k2 := (kq _).trans k2
  have n2 := (congrFun nq _).trans n2
  have k3 := (kq _).trans k3
  have n3 := (congrFun nq _).trans n3
  have k4 := (kq _).trans k4
  have n4 := (congrFun nq _).trans n4
  have k5 := (kq _).trans k5
  have n5 := (congrFun nq _).trans n5
  have k6 := (kq _).trans k6
  have n6 := (congrFun nq _).trans n6
  have k7 := (kq _).trans k7
  have n7 := (congrFun nq _).trans n7
  have k8 := (kq _).trans k8
  have n8 := (congrFun nq _).trans n8
  have k9 := (kq _).trans k9
  have n9 := (congrFun nq _).trans n9
  refine en_segs [(84, .aload_n 0, []), (85, .aload_n 1, [])] (by decide +kernel) (y := (86, [some (.ref a0), some (.ref a1)], [.ref a1, .ref a0], h)) rfl ?_
  refine en_putA (fs' := [.ref a1, .int 0, .int 0, .int 0, .ref (aX d + 0), .ref (aX d + 1), .ref (aX d + 2), .ref (aX d + 3), .ref (aX d + 4), .ref (aX d + 5), .ref (aX d + 6), .ref (aX d + 7), .ref (aX d + 8), .ref (aX d + 9)]) (by decide +kernel : u_at kl_80 86 = some (.putfield 42, [8, 0, 3])) hW ha0 hf (Nat.le_of_ble_eq_true rfl) rfl rfl hX (fun h e20 he20 hW kq nq hX hf ha0 y => ?_)
  have W := W.trans y
  have k0 := (kq _).trans k0
  have n0 := (congrFun nq _).trans n0
  have k1 := (kq _).trans k1
  have n1 := (congrFun nq _).trans n1
  have k2 := (kq _).trans k2
  have n2 := (congrFun nq _).trans n2
  have k3 := (kq _).trans k3
  have n3 := (congrFun nq _).trans n3
  have k4 := (kq _).trans k4
  have n4 := (congrFun nq _).trans n4
  have k5 := (kq _).trans k5
  have n5 := (congrFun nq _).trans n5
  have k6 := (kq _).trans k6
  have n6 := (congrFun nq _).trans n6
  have k7 := (kq _).trans k7
  have n7 := (congrFun nq _).trans n7
  have k8 := (kq _).trans k8
  have n8 := (congrFun nq _).trans n8
  have k9 := (kq _).trans k9
  have n9 := (congrFun nq _).trans n9
  have WO := own_w (c := 8) (X := aX d) (l := [some 4, some 5, some 6, some 7, some 8, some 9, some 10, some 11, some 12, some 13]) hd0 (Nat.le_refl _) W
  have fa1 := (WO.2.1 a1 za1 (by rw [ha1]; exact fun q => by cases q)).trans ha1
  have hO : HW (mkw c0 c1 c2 c3 c4 c5 c6 c7 (sR (zat c8 a0) 0 a0 a1) c9 c10 c11 c12 c13) (own e20 8 a0 (aX d) [some 4, some 5, some 6, some 7, some 8, some 9, some 10, some 11, some 12, some 13]) h := by
    refine hw_own2 (c := 8) (a := a0) (X := aX d) (l := [some 4, some 5, some 6, some 7, some 8, some 9, some 10, some 11, some 12, some 13]) (x := (sR (zat c8 a0) 0 a0 a1)) hW (by decide) ha0 (by decide +kernel) (fun i k e => ?_) (fun k b g => ?_) (fun k => ?_) ?_ (fun k hk h3 => ?_)
    · rcases i with _ | _ | _ | _ | _ | _ | _ | _ | _ | _ | i
      · cases e; exact ⟨k0, n0⟩
      · cases e; exact ⟨k1, n1⟩
      · cases e; exact ⟨k2, n2⟩
      · cases e; exact ⟨k3, n3⟩
      · cases e; exact ⟨k4, n4⟩
      · cases e; exact ⟨k5, n5⟩
      · cases e; exact ⟨k6, n6⟩
      · cases e; exact ⟨k7, n7⟩
      · cases e; exact ⟨k8, n8⟩
      · cases e; exact ⟨k9, n9⟩
      · cases e
    · show cI _ k b = cI c8 k b ∧ cJ _ k b = cJ c8 k b ∧ cR _ k b = cR c8 k b ∧ cA _ k b = cA c8 k b ∧ cB _ k b = cB c8 k b ∧ cQ _ k b = cQ c8 k b
      simp [sI, sJ, sR, zat, cI, cJ, cR, cA, cB, cQ, up2, g]
    · simp [sI, sJ, sR, zat, cI, cJ, cR, cA, cB, cQ, up2]
    · rw [hf]
      show _ = ([.ref (cR (sR (zat c8 a0) 0 a0 a1) 0 a0), .int (cI (sR (zat c8 a0) 0 a0 a1) 1 a0), .int (cI (sR (zat c8 a0) 0 a0 a1) 2 a0), .int (cI (sR (zat c8 a0) 0 a0 a1) 3 a0), .ref (if a0 = a0 then aX d + List.idxOf (some 4) [some 4, some 5, some 6, some 7, some 8, some 9, some 10, some 11, some 12, some 13] else aP e20 8 4 a0), .ref (if a0 = a0 then aX d + List.idxOf (some 5) [some 4, some 5, some 6, some 7, some 8, some 9, some 10, some 11, some 12, some 13] else aP e20 8 5 a0), .ref (if a0 = a0 then aX d + List.idxOf (some 6) [some 4, some 5, some 6, some 7, some 8, some 9, some 10, some 11, some 12, some 13] else aP e20 8 6 a0), .ref (if a0 = a0 then aX d + List.idxOf (some 7) [some 4, some 5, some 6, some 7, some 8, some 9, some 10, some 11, some 12, some 13] else aP e20 8 7 a0), .ref (if a0 = a0 then aX d + List.idxOf (some 8) [some 4, some 5, some 6, some 7, some 8, some 9, some 10, some 11, some 12, some 13] else aP e20 8 8 a0), .ref (if a0 = a0 then aX d + List.idxOf (some 9) [some 4, some 5, some 6, some 7, some 8, some 9, some 10, some 11, some 12, some 13] else aP e20 8 9 a0), .ref (if a0 = a0 then aX d + List.idxOf (some 10) [some 4, some 5, some 6, some 7, some 8, some 9, some 10, some 11, some 12, some 13] else aP e20 8 10 a0), .ref (if a0 = a0 then aX d + List.idxOf (some 11) [some 4, some 5, some 6, some 7, some 8, some 9, some 10, some 11, some 12, some 13] else aP e20 8 11 a0), .ref (if a0 = a0 then aX d + List.idxOf (some 12) [some 4, some 5, some 6, some 7, some 8, some 9, some 10, some 11, some 12, some 13] else aP e20 8 12 a0), .ref (if a0 = a0 then aX d + List.idxOf (some 13) [some 4, some 5, some 6, some 7, some 8, some 9, some 10, some 11, some 12, some 13] else aP e20 8 13 a0)] : List Value)
      simp [sI, sJ, sR, zat, cI, cJ, cR, cA, cB, cQ, up2, List.idxOf, List.findIdx, List.findIdx.go]
    · rcases k with _ | _ | _ | _ | _ | _ | _ | _ | _ | _ | _ | _ | _ | _ | k
      · show aK _ (cR (sR (zat c8 a0) 0 a0 a1) 0 a0) = _
        have : cR (sR (zat c8 a0) 0 a0 a1) 0 a0 = a1 := by simp [sI, sJ, sR, zat, cI, cJ, cR, cA, cB, cQ, up2]
        rw [this]; exact fa1
      · exact True.intro
      · exact True.intro
      · exact True.intro
      · exact absurd rfl h3
      · exact absurd rfl h3
      · exact absurd rfl h3
      · exact absurd rfl h3
      · exact absurd rfl h3
      · exact absurd rfl h3
      · exact absurd rfl h3
      · exact absurd rfl h3
      · exact absurd rfl h3
      · exact absurd rfl h3
      · exact absurd hk (Nat.not_lt.mpr (Nat.le_add_left _ _))
  exact en_ret (by decide +kernel : u_at kl_80 89 = some (.return_, [])) rfl (by subst he20 he19 he18 he17 he16 he15 he14 he13 he12 he11 he10 he9 he8 he7 he6 he5 he4 he3 he2 he1 he0; exact ⟨rfl, hO, WO⟩)
set_option maxRecDepth 100000 in
set_option maxHeartbeats 4000000 in
theorem e_50 {D : Nat} {c0 c1 c2 c3 c4 c5 c6 c7 c8 c9 c10 c11 c12 c13 : Cl} {d : Ad} {h : UH} {a0 : Nat} (hD : 1 ≤ D) (hW : HW (mkw c0 c1 c2 c3 c4 c5 c6 c7 c8 c9 c10 c11 c12 c13) d h) (ha0 : aK d a0 = (3, 6, 0)) (hf : aF d a0 = [.int 0, .int 0, .int 0, .int 0, .null, .null, .null, .null, .null, .null, .null, .null, .null, .null, .null, .null]) : ∃ q, EX D 50 [.ref a0] h q ∧ q.1 = none ∧ HW (mkw c0 c1 c2 c3 c4 c5 (sR (sR (sR (sR (zat c6 a0) 12 a0 (aX d + 8)) 13 a0 (aX d + 9)) 14 a0 (aX d + 10)) 15 a0 (aX d + 11)) c7 c8 c9 c10 c11 c12 (sA (sA (sB (sB c13 0 (aX d + 8) (fun _ => 0)) 0 (aX d + 9) (fun _ => 0)) 0 (aX d + 10) (fun _ => 0)) 0 (aX d + 11) (fun _ => 0))) (own (adf (adn (adf (adn (adf (adn (adf (adn (adf (adz (adf (adz (adf (adz (adf (adz (adf (adz (adf (adz (adf (adz (adf (adz (d) 1 6) a0 [.int 0, .int 0, .int 0, .int 0, .ref (aX d + 0), .null, .null, .null, .null, .null, .null, .null, .null, .null, .null, .null]) 1 6) a0 [.int 0, .int 0, .int 0, .int 0, .ref (aX d + 0), .ref (aX d + 1), .null, .null, .null, .null, .null, .null, .null, .null, .null, .null]) 1 6) a0 [.int 0, .int 0, .int 0, .int 0, .ref (aX d + 0), .ref (aX d + 1), .ref (aX d + 2), .null, .null, .null, .null, .null, .null, .null, .null, .null]) 1 6) a0 [.int 0, .int 0, .int 0, .int 0, .ref (aX d + 0), .ref (aX d + 1), .ref (aX d + 2), .ref (aX d + 3), .null, .null, .null, .null, .null, .null, .null, .null]) 1 6) a0 [.int 0, .int 0, .int 0, .int 0, .ref (aX d + 0), .ref (aX d + 1), .ref (aX d + 2), .ref (aX d + 3), .ref (aX d + 4), .null, .null, .null, .null, .null, .null, .null]) 2 6) a0 [.int 0, .int 0, .int 0, .int 0, .ref (aX d + 0), .ref (aX d + 1), .ref (aX d + 2), .ref (aX d + 3), .ref (aX d + 4), .ref (aX d + 5), .null, .null, .null, .null, .null, .null]) 1 6) a0 [.int 0, .int 0, .int 0, .int 0, .ref (aX d + 0), .ref (aX d + 1), .ref (aX d + 2), .ref (aX d + 3), .ref (aX d + 4), .ref (aX d + 5), .ref (aX d + 6), .null, .null, .null, .null, .null]) 1 6) a0 [.int 0, .int 0, .int 0, .int 0, .ref (aX d + 0), .ref (aX d + 1), .ref (aX d + 2), .ref (aX d + 3), .ref (aX d + 4), .ref (aX d + 5), .ref (aX d + 6), .ref (aX d + 7), .null, .null, .null, .null]) 2 0) a0 [.int 0, .int 0, .int 0, .int 0, .ref (aX d + 0), .ref (aX d + 1), .ref (aX d + 2), .ref (aX d + 3), .ref (aX d + 4), .ref (aX d + 5), .ref (aX d + 6), .ref (aX d + 7), .ref (aX d + 8), .null, .null, .null]) 2 0) a0 [.int 0, .int 0, .int 0, .int 0, .ref (aX d + 0), .ref (aX d + 1), .ref (aX d + 2), .ref (aX d + 3), .ref (aX d + 4), .ref (aX d + 5), .ref (aX d + 6), .ref (aX d + 7), .ref (aX d + 8), .ref (aX d + 9), .null, .null]) 1 0) a0 [.int 0, .int 0, .int 0, .int 0, .ref (aX d + 0), .ref (aX d + 1), .ref (aX d + 2), .ref (aX d + 3), .ref (aX d + 4), .ref (aX d + 5), .ref (aX d + 6), .ref (aX d + 7), .ref (aX d + 8), .ref (aX d + 9), .ref (aX d + 10), .null]) 1 0) a0 [.int 0, .int 0, .int 0, .int 0, .ref (aX d + 0), .ref (aX d + 1), .ref (aX d + 2), .ref (aX d + 3), .ref (aX d + 4), .ref (aX d + 5), .ref (aX d + 6), .ref (aX d + 7), .ref (aX d + 8), .ref (aX d + 9), .ref (aX d + 10), .ref (aX d + 11)]) 6 a0 (aX d) [some 4, some 5, some 6, some 7, some 8, some 9, some 10, some 11, none, none, none, none]) q.2 ∧ Adw a0 d (own (adf (adn (adf (adn (adf (adn (adf (adn (adf (adz (adf (adz (adf (adz (adf (adz (adf (adz (adf (adz (adf (adz (adf (adz (d) 1 6) a0 [.int 0, .int 0, .int 0, .int 0, .ref (aX d + 0), .null, .null, .null, .null, .null, .null, .null, .null, .null, .null, .null]) 1 6) a0 [.int 0, .int 0, .int 0, .int 0, .ref (aX d + 0), .ref (aX d + 1), .null, .null, .null, .null, .null, .null, .null, .null, .null, .null]) 1 6) a0 [.int 0, .int 0, .int 0, .int 0, .ref (aX d + 0), .ref (aX d + 1), .ref (aX d + 2), .null, .null, .null, .null, .null, .null, .null, .null, .null]) 1 6) a0 [.int 0, .int 0, .int 0, .int 0, .ref (aX d + 0), .ref (aX d + 1), .ref (aX d + 2), .ref (aX d + 3), .null, .null, .null, .null, .null, .null, .null, .null]) 1 6) a0 [.int 0, .int 0, .int 0, .int 0, .ref (aX d + 0), .ref (aX d + 1), .ref (aX d + 2), .ref (aX d + 3), .ref (aX d + 4), .null, .null, .null, .null, .null, .null, .null]) 2 6) a0 [.int 0, .int 0, .int 0, .int 0, .ref (aX d + 0), .ref (aX d + 1), .ref (aX d + 2), .ref (aX d + 3), .ref (aX d + 4), .ref (aX d + 5), .null, .null, .null, .null, .null, .null]) 1 6) a0 [.int 0, .int 0, .int 0, .int 0, .ref (aX d + 0), .ref (aX d + 1), .ref (aX d + 2), .ref (aX d + 3), .ref (aX d + 4), .ref (aX d + 5), .ref (aX d + 6), .null, .null, .null, .null, .null]) 1 6) a0 [.int 0, .int 0, .int 0, .int 0, .ref (aX d + 0), .ref (aX d + 1), .ref (aX d + 2), .ref (aX d + 3), .ref (aX d + 4), .ref (aX d + 5), .ref (aX d + 6), .ref (aX d + 7), .null, .null, .null, .null]) 2 0) a0 [.int 0, .int 0, .int 0, .int 0, .ref (aX d + 0), .ref (aX d + 1), .ref (aX d + 2), .ref (aX d + 3), .ref (aX d + 4), .ref (aX d + 5), .ref (aX d + 6), .ref (aX d + 7), .ref (aX d + 8), .null, .null, .null]) 2 0) a0 [.int 0, .int 0, .int 0, .int 0, .ref (aX d + 0), .ref (aX d + 1), .ref (aX d + 2), .ref (aX d + 3), .ref (aX d + 4), .ref (aX d + 5), .ref (aX d + 6), .ref (aX d + 7), .ref (aX d + 8), .ref (aX d + 9), .null, .null]) 1 0) a0 [.int 0, .int 0, .int 0, .int 0, .ref (aX d + 0), .ref (aX d + 1), .ref (aX d + 2), .ref (aX d + 3), .ref (aX d + 4), .ref (aX d + 5), .ref (aX d + 6), .ref (aX d + 7), .ref (aX d + 8), .ref (aX d + 9), .ref (aX d + 10), .null]) 1 0) a0 [.int 0, .int 0, .int 0, .int 0, .ref (aX d + 0), .ref (aX d + 1), .ref (aX d + 2), .ref (aX d + 3), .ref (aX d + 4), .ref (aX d + 5), .ref (aX d + 6), .ref (aX d + 7), .ref (aX d + 8), .ref (aX d + 9), .ref (aX d + 10), .ref (aX d + 11)]) 6 a0 (aX d) [some 4, some 5, some 6, some 7, some 8, some 9, some 10, some 11, none, none, none, none]) ∧ (aK (own (adf (adn (adf (adn (adf (adn (adf (adn (adf (adz (adf (adz (adf (adz (adf (adz (adf (adz (adf (adz (adf (adz (adf (adz (d) 1 6) a0 [.int 0, .int 0, .int 0, .int 0, .ref (aX d + 0), .null, .null, .null, .null, .null, .null, .null, .null, .null, .null, .null]) 1 6) a0 [.int 0, .int 0, .int 0, .int 0, .ref (aX d + 0), .ref (aX d + 1), .null, .null, .null, .null, .null, .null, .null, .null, .null, .null]) 1 6) a0 [.int 0, .int 0, .int 0, .int 0, .ref (aX d + 0), .ref (aX d + 1), .ref (aX d + 2), .null, .null, .null, .null, .null, .null, .null, .null, .null]) 1 6) a0 [.int 0, .int 0, .int 0, .int 0, .ref (aX d + 0), .ref (aX d + 1), .ref (aX d + 2), .ref (aX d + 3), .null, .null, .null, .null, .null, .null, .null, .null]) 1 6) a0 [.int 0, .int 0, .int 0, .int 0, .ref (aX d + 0), .ref (aX d + 1), .ref (aX d + 2), .ref (aX d + 3), .ref (aX d + 4), .null, .null, .null, .null, .null, .null, .null]) 2 6) a0 [.int 0, .int 0, .int 0, .int 0, .ref (aX d + 0), .ref (aX d + 1), .ref (aX d + 2), .ref (aX d + 3), .ref (aX d + 4), .ref (aX d + 5), .null, .null, .null, .null, .null, .null]) 1 6) a0 [.int 0, .int 0, .int 0, .int 0, .ref (aX d + 0), .ref (aX d + 1), .ref (aX d + 2), .ref (aX d + 3), .ref (aX d + 4), .ref (aX d + 5), .ref (aX d + 6), .null, .null, .null, .null, .null]) 1 6) a0 [.int 0, .int 0, .int 0, .int 0, .ref (aX d + 0), .ref (aX d + 1), .ref (aX d + 2), .ref (aX d + 3), .ref (aX d + 4), .ref (aX d + 5), .ref (aX d + 6), .ref (aX d + 7), .null, .null, .null, .null]) 2 0) a0 [.int 0, .int 0, .int 0, .int 0, .ref (aX d + 0), .ref (aX d + 1), .ref (aX d + 2), .ref (aX d + 3), .ref (aX d + 4), .ref (aX d + 5), .ref (aX d + 6), .ref (aX d + 7), .ref (aX d + 8), .null, .null, .null]) 2 0) a0 [.int 0, .int 0, .int 0, .int 0, .ref (aX d + 0), .ref (aX d + 1), .ref (aX d + 2), .ref (aX d + 3), .ref (aX d + 4), .ref (aX d + 5), .ref (aX d + 6), .ref (aX d + 7), .ref (aX d + 8), .ref (aX d + 9), .null, .null]) 1 0) a0 [.int 0, .int 0, .int 0, .int 0, .ref (aX d + 0), .ref (aX d + 1), .ref (aX d + 2), .ref (aX d + 3), .ref (aX d + 4), .ref (aX d + 5), .ref (aX d + 6), .ref (aX d + 7), .ref (aX d + 8), .ref (aX d + 9), .ref (aX d + 10), .null]) 1 0) a0 [.int 0, .int 0, .int 0, .int 0, .ref (aX d + 0), .ref (aX d + 1), .ref (aX d + 2), .ref (aX d + 3), .ref (aX d + 4), .ref (aX d + 5), .ref (aX d + 6), .ref (aX d + 7), .ref (aX d + 8), .ref (aX d + 9), .ref (aX d + 10), .ref (aX d + 11)]) 6 a0 (aX d) [some 4, some 5, some 6, some 7, some 8, some 9, some 10, some 11, none, none, none, none]) (aX d + 8) = (2, 2, 0) ∧ aN (own (adf (adn (adf (adn (adf (adn (adf (adn (adf (adz (adf (adz (adf (adz (adf (adz (adf (adz (adf (adz (adf (adz (adf (adz (d) 1 6) a0 [.int 0, .int 0, .int 0, .int 0, .ref (aX d + 0), .null, .null, .null, .null, .null, .null, .null, .null, .null, .null, .null]) 1 6) a0 [.int 0, .int 0, .int 0, .int 0, .ref (aX d + 0), .ref (aX d + 1), .null, .null, .null, .null, .null, .null, .null, .null, .null, .null]) 1 6) a0 [.int 0, .int 0, .int 0, .int 0, .ref (aX d + 0), .ref (aX d + 1), .ref (aX d + 2), .null, .null, .null, .null, .null, .null, .null, .null, .null]) 1 6) a0 [.int 0, .int 0, .int 0, .int 0, .ref (aX d + 0), .ref (aX d + 1), .ref (aX d + 2), .ref (aX d + 3), .null, .null, .null, .null, .null, .null, .null, .null]) 1 6) a0 [.int 0, .int 0, .int 0, .int 0, .ref (aX d + 0), .ref (aX d + 1), .ref (aX d + 2), .ref (aX d + 3), .ref (aX d + 4), .null, .null, .null, .null, .null, .null, .null]) 2 6) a0 [.int 0, .int 0, .int 0, .int 0, .ref (aX d + 0), .ref (aX d + 1), .ref (aX d + 2), .ref (aX d + 3), .ref (aX d + 4), .ref (aX d + 5), .null, .null, .null, .null, .null, .null]) 1 6) a0 [.int 0, .int 0, .int 0, .int 0, .ref (aX d + 0), .ref (aX d + 1), .ref (aX d + 2), .ref (aX d + 3), .ref (aX d + 4), .ref (aX d + 5), .ref (aX d + 6), .null, .null, .null, .null, .null]) 1 6) a0 [.int 0, .int 0, .int 0, .int 0, .ref (aX d + 0), .ref (aX d + 1), .ref (aX d + 2), .ref (aX d + 3), .ref (aX d + 4), .ref (aX d + 5), .ref (aX d + 6), .ref (aX d + 7), .null, .null, .null, .null]) 2 0) a0 [.int 0, .int 0, .int 0, .int 0, .ref (aX d + 0), .ref (aX d + 1), .ref (aX d + 2), .ref (aX d + 3), .ref (aX d + 4), .ref (aX d + 5), .ref (aX d + 6), .ref (aX d + 7), .ref (aX d + 8), .null, .null, .null]) 2 0) a0 [.int 0, .int 0, .int 0, .int 0, .ref (aX d + 0), .ref (aX d + 1), .ref (aX d + 2), .ref (aX d + 3), .ref (aX d + 4), .ref (aX d + 5), .ref (aX d + 6), .ref (aX d + 7), .ref (aX d + 8), .ref (aX d + 9), .null, .null]) 1 0) a0 [.int 0, .int 0, .int 0, .int 0, .ref (aX d + 0), .ref (aX d + 1), .ref (aX d + 2), .ref (aX d + 3), .ref (aX d + 4), .ref (aX d + 5), .ref (aX d + 6), .ref (aX d + 7), .ref (aX d + 8), .ref (aX d + 9), .ref (aX d + 10), .null]) 1 0) a0 [.int 0, .int 0, .int 0, .int 0, .ref (aX d + 0), .ref (aX d + 1), .ref (aX d + 2), .ref (aX d + 3), .ref (aX d + 4), .ref (aX d + 5), .ref (aX d + 6), .ref (aX d + 7), .ref (aX d + 8), .ref (aX d + 9), .ref (aX d + 10), .ref (aX d + 11)]) 6 a0 (aX d) [some 4, some 5, some 6, some 7, some 8, some 9, some 10, some 11, none, none, none, none]) (aX d + 8) = 0) ∧ (aK (own (adf (adn (adf (adn (adf (adn (adf (adn (adf (adz (adf (adz (adf (adz (adf (adz (adf (adz (adf (adz (adf (adz (adf (adz (d) 1 6) a0 [.int 0, .int 0, .int 0, .int 0, .ref (aX d + 0), .null, .null, .null, .null, .null, .null, .null, .null, .null, .null, .null]) 1 6) a0 [.int 0, .int 0, .int 0, .int 0, .ref (aX d + 0), .ref (aX d + 1), .null, .null, .null, .null, .null, .null, .null, .null, .null, .null]) 1 6) a0 [.int 0, .int 0, .int 0, .int 0, .ref (aX d + 0), .ref (aX d + 1), .ref (aX d + 2), .null, .null, .null, .null, .null, .null, .null, .null, .null]) 1 6) a0 [.int 0, .int 0, .int 0, .int 0, .ref (aX d + 0), .ref (aX d + 1), .ref (aX d + 2), .ref (aX d + 3), .null, .null, .null, .null, .null, .null, .null, .null]) 1 6) a0 [.int 0, .int 0, .int 0, .int 0, .ref (aX d + 0), .ref (aX d + 1), .ref (aX d + 2), .ref (aX d + 3), .ref (aX d + 4), .null, .null, .null, .null, .null, .null, .null]) 2 6) a0 [.int 0, .int 0, .int 0, .int 0, .ref (aX d + 0), .ref (aX d + 1), .ref (aX d + 2), .ref (aX d + 3), .ref (aX d + 4), .ref (aX d + 5), .null, .null, .null, .null, .null, .null]) 1 6) a0 [.int 0, .int 0, .int 0, .int 0, .ref (aX d + 0), .ref (aX d + 1), .ref (aX d + 2), .ref (aX d + 3), .ref (aX d + 4), .ref (aX d + 5), .ref (aX d + 6), .null, .null, .null, .null, .null]) 1 6) a0 [.int 0, .int 0, .int 0, .int 0, .ref (aX d + 0), .ref (aX d + 1), .ref (aX d + 2), .ref (aX d + 3), .ref (aX d + 4), .ref (aX d + 5), .ref (aX d + 6), .ref (aX d + 7), .null, .null, .null, .null]) 2 0) a0 [.int 0, .int 0, .int 0, .int 0, .ref (aX d + 0), .ref (aX d + 1), .ref (aX d + 2), .ref (aX d + 3), .ref (aX d + 4), .ref (aX d + 5), .ref (aX d + 6), .ref (aX d + 7), .ref (aX d + 8), .null, .null, .null]) 2 0) a0 [.int 0, .int 0, .int 0, .int 0, .ref (aX d + 0), .ref (aX d + 1), .ref (aX d + 2), .ref (aX d + 3), .ref (aX d + 4), .ref (aX d + 5), .ref (aX d + 6), .ref (aX d + 7), .ref (aX d + 8), .ref (aX d + 9), .null, .null]) 1 0) a0 [.int 0, .int 0, .int 0, .int 0, .ref (aX d + 0), .ref (aX d + 1), .ref (aX d + 2), .ref (aX d + 3), .ref (aX d + 4), .ref (aX d + 5), .ref (aX d + 6), .ref (aX d + 7), .ref (aX d + 8), .ref (aX d + 9), .ref (aX d + 10), .null]) 1 0) a0 [.int 0, .int 0, .int 0, .int 0, .ref (aX d + 0), .ref (aX d + 1), .ref (aX d + 2), .ref (aX d + 3), .ref (aX d + 4), .ref (aX d + 5), .ref (aX d + 6), .ref (aX d + 7), .ref (aX d + 8), .ref (aX d + 9), .ref (aX d + 10), .ref (aX d + 11)]) 6 a0 (aX d) [some 4, some 5, some 6, some 7, some 8, some 9, some 10, some 11, none, none, none, none]) (aX d + 9) = (2, 2, 0) ∧ aN (own (adf (adn (adf (adn (adf (adn (adf (adn (adf (adz (adf (adz (adf (adz (adf (adz (adf (adz (adf (adz (adf (adz (adf (adz (d) 1 6) a0 [.int 0, .int 0, .int 0, .int 0, .ref (aX d + 0), .null, .null, .null, .null, .null, .null, .null, .null, .null, .null, .null]) 1 6) a0 [.int 0, .int 0, .int 0, .int 0, .ref (aX d + 0), .ref (aX d + 1), .null, .null, .null, .null, .null, .null, .null, .null, .null, .null]) 1 6) a0 [.int 0, .int 0, .int 0, .int 0, .ref (aX d + 0), .ref (aX d + 1), .ref (aX d + 2), .null, .null, .null, .null, .null, .null, .null, .null, .null]) 1 6) a0 [.int 0, .int 0, .int 0, .int 0, .ref (aX d + 0), .ref (aX d + 1), .ref (aX d + 2), .ref (aX d + 3), .null, .null, .null, .null, .null, .null, .null, .null]) 1 6) a0 [.int 0, .int 0, .int 0, .int 0, .ref (aX d + 0), .ref (aX d + 1), .ref (aX d + 2), .ref (aX d + 3), .ref (aX d + 4), .null, .null, .null, .null, .null, .null, .null]) 2 6) a0 [.int 0, .int 0, .int 0, .int 0, .ref (aX d + 0), .ref (aX d + 1), .ref (aX d + 2), .ref (aX d + 3), .ref (aX d + 4), .ref (aX d + 5), .null, .null, .null, .null, .null, .null]) 1 6) a0 [.int 0, .int 0, .int 0, .int 0, .ref (aX d + 0), .ref (aX d + 1), .ref (aX d + 2), .ref (aX d + 3), .ref (aX d + 4), .ref (aX d + 5), .ref (aX d + 6), .null, .null, .null, .null, .null]) 1 6) a0 [.int 0, .int 0, .int 0, .int 0, .ref (aX d + 0), .ref (aX d + 1), .ref (aX d + 2), .ref (aX d + 3), .ref (aX d + 4), .ref (aX d + 5), .ref (aX d + 6), .ref (aX d + 7), .null, .null, .null, .null]) 2 0) a0 [.int 0, .int 0, .int 0, .int 0, .ref (aX d + 0), .ref (aX d + 1), .ref (aX d + 2), .ref (aX d + 3), .ref (aX d + 4), .ref (aX d + 5), .ref (aX d + 6), .ref (aX d + 7), .ref (aX d + 8), .null, .null, .null]) 2 0) a0 [.int 0, .int 0, .int 0, .int 0, .ref (aX d + 0), .ref (aX d + 1), .ref (aX d + 2), .ref (aX d + 3), .ref (aX d + 4), .ref (aX d + 5), .ref (aX d + 6), .ref (aX d + 7), .ref (aX d + 8), .ref (aX d + 9), .null, .null]) 1 0) a0 [.int 0, .int 0, .int 0, .int 0, .ref (aX d + 0), .ref (aX d + 1), .ref (aX d + 2), .ref (aX d + 3), .ref (aX d + 4), .ref (aX d + 5), .ref (aX d + 6), .ref (aX d + 7), .ref (aX d + 8), .ref (aX d + 9), .ref (aX d + 10), .null]) 1 0) a0 [.int 0, .int 0, .int 0, .int 0, .ref (aX d + 0), .ref (aX d + 1), .ref (aX d + 2), .ref (aX d + 3), .ref (aX d + 4), .ref (aX d + 5), .ref (aX d + 6), .ref (aX d + 7), .ref (aX d + 8), .ref (aX d + 9), .ref (aX d + 10), .ref (aX d + 11)]) 6 a0 (aX d) [some 4, some 5, some 6, some 7, some 8, some 9, some 10, some 11, none, none, none, none]) (aX d + 9) = 0) ∧ (aK (own (adf (adn (adf (adn (adf (adn (adf (adn (adf (adz (adf (adz (adf (adz (adf (adz (adf (adz (adf (adz (adf (adz (adf (adz (d) 1 6) a0 [.int 0, .int 0, .int 0, .int 0, .ref (aX d + 0), .null, .null, .null, .null, .null, .null, .null, .null, .null, .null, .null]) 1 6) a0 [.int 0, .int 0, .int 0, .int 0, .ref (aX d + 0), .ref (aX d + 1), .null, .null, .null, .null, .null, .null, .null, .null, .null, .null]) 1 6) a0 [.int 0, .int 0, .int 0, .int 0, .ref (aX d + 0), .ref (aX d + 1), .ref (aX d + 2), .null, .null, .null, .null, .null, .null, .null, .null, .null]) 1 6) a0 [.int 0, .int 0, .int 0, .int 0, .ref (aX d + 0), .ref (aX d + 1), .ref (aX d + 2), .ref (aX d + 3), .null, .null, .null, .null, .null, .null, .null, .null]) 1 6) a0 [.int 0, .int 0, .int 0, .int 0, .ref (aX d + 0), .ref (aX d + 1), .ref (aX d + 2), .ref (aX d + 3), .ref (aX d + 4), .null, .null, .null, .null, .null, .null, .null]) 2 6) a0 [.int 0, .int 0, .int 0, .int 0, .ref (aX d + 0), .ref (aX d + 1), .ref (aX d + 2), .ref (aX d + 3), .ref (aX d + 4), .ref (aX d + 5), .null, .null, .null, .null, .null, .null]) 1 6) a0 [.int 0, .int 0, .int 0, .int 0, .ref (aX d + 0), .ref (aX d + 1), .ref (aX d + 2), .ref (aX d + 3), .ref (aX d + 4), .ref (aX d + 5), .ref (aX d + 6), .null, .null, .null, .null, .null]) 1 6) a0 [.int 0, .int 0, .int 0, .int 0, .ref (aX d + 0), .ref (aX d + 1), .ref (aX d + 2), .ref (aX d + 3), .ref (aX d + 4), .ref (aX d + 5), .ref (aX d + 6), .ref (aX d + 7), .null, .null, .null, .null]) 2 0) a0 [.int 0, .int 0, .int 0, .int 0, .ref (aX d + 0), .ref (aX d + 1), .ref (aX d + 2), .ref (aX d + 3), .ref (aX d + 4), .ref (aX d + 5), .ref (aX d + 6), .ref (aX d + 7), .ref (aX d + 8), .null, .null, .null]) 2 0) a0 [.int 0, .int 0, .int 0, .int 0, .ref (aX d + 0), .ref (aX d + 1), .ref (aX d + 2), .ref (aX d + 3), .ref (aX d + 4), .ref (aX d + 5), .ref (aX d + 6), .ref (aX d + 7), .ref (aX d + 8), .ref (aX d + 9), .null, .null]) 1 0) a0 [.int 0, .int 0, .int 0, .int 0, .ref (aX d + 0), .ref (aX d + 1), .ref (aX d + 2), .ref (aX d + 3), .ref (aX d + 4), .ref (aX d + 5), .ref (aX d + 6), .ref (aX d + 7), .ref (aX d + 8), .ref (aX d + 9), .ref (aX d + 10), .null]) 1 0) a0 [.int 0, .int 0, .int 0, .int 0, .ref (aX d + 0), .ref (aX d + 1), .ref (aX d + 2), .ref (aX d + 3), .ref (aX d + 4), .ref (aX d + 5), .ref (aX d + 6), .ref (aX d + 7), .ref (aX d + 8), .ref (aX d + 9), .ref (aX d + 10), .ref (aX d + 11)]) 6 a0 (aX d) [some 4, some 5, some 6, some 7, some 8, some 9, some 10, some 11, none, none, none, none]) (aX d + 10) = (2, 1, 0) ∧ aN (own (adf (adn (adf (adn (adf (adn (adf (adn (adf (adz (adf (adz (adf (adz (adf (adz (adf (adz (adf (adz (adf (adz (adf (adz (d) 1 6) a0 [.int 0, .int 0, .int 0, .int 0, .ref (aX d + 0), .null, .null, .null, .null, .null, .null, .null, .null, .null, .null, .null]) 1 6) a0 [.int 0, .int 0, .int 0, .int 0, .ref (aX d + 0), .ref (aX d + 1), .null, .null, .null, .null, .null, .null, .null, .null, .null, .null]) 1 6) a0 [.int 0, .int 0, .int 0, .int 0, .ref (aX d + 0), .ref (aX d + 1), .ref (aX d + 2), .null, .null, .null, .null, .null, .null, .null, .null, .null]) 1 6) a0 [.int 0, .int 0, .int 0, .int 0, .ref (aX d + 0), .ref (aX d + 1), .ref (aX d + 2), .ref (aX d + 3), .null, .null, .null, .null, .null, .null, .null, .null]) 1 6) a0 [.int 0, .int 0, .int 0, .int 0, .ref (aX d + 0), .ref (aX d + 1), .ref (aX d + 2), .ref (aX d + 3), .ref (aX d + 4), .null, .null, .null, .null, .null, .null, .null]) 2 6) a0 [.int 0, .int 0, .int 0, .int 0, .ref (aX d + 0), .ref (aX d + 1), .ref (aX d + 2), .ref (aX d + 3), .ref (aX d + 4), .ref (aX d + 5), .null, .null, .null, .null, .null, .null]) 1 6) a0 [.int 0, .int 0, .int 0, .int 0, .ref (aX d + 0), .ref (aX d + 1), .ref (aX d + 2), .ref (aX d + 3), .ref (aX d + 4), .ref (aX d + 5), .ref (aX d + 6), .null, .null, .null, .null, .null]) 1 6) a0 [.int 0, .int 0, .int 0, .int 0, .ref (aX d + 0), .ref (aX d + 1), .ref (aX d + 2), .ref (aX d + 3), .ref (aX d + 4), .ref (aX d + 5), .ref (aX d + 6), .ref (aX d + 7), .null, .null, .null, .null]) 2 0) a0 [.int 0, .int 0, .int 0, .int 0, .ref (aX d + 0), .ref (aX d + 1), .ref (aX d + 2), .ref (aX d + 3), .ref (aX d + 4), .ref (aX d + 5), .ref (aX d + 6), .ref (aX d + 7), .ref (aX d + 8), .null, .null, .null]) 2 0) a0 [.int 0, .int 0, .int 0, .int 0, .ref (aX d + 0), .ref (aX d + 1), .ref (aX d + 2), .ref (aX d + 3), .ref (aX d + 4), .ref (aX d + 5), .ref (aX d + 6), .ref (aX d + 7), .ref (aX d + 8), .ref (aX d + 9), .null, .null]) 1 0) a0 [.int 0, .int 0, .int 0, .int 0, .ref (aX d + 0), .ref (aX d + 1), .ref (aX d + 2), .ref (aX d + 3), .ref (aX d + 4), .ref (aX d + 5), .ref (aX d + 6), .ref (aX d + 7), .ref (aX d + 8), .ref (aX d + 9), .ref (aX d + 10), .null]) 1 0) a0 [.int 0, .int 0, .int 0, .int 0, .ref (aX d + 0), .ref (aX d + 1), .ref (aX d + 2), .ref (aX d + 3), .ref (aX d + 4), .ref (aX d + 5), .ref (aX d + 6), .ref (aX d + 7), .ref (aX d + 8), .ref (aX d + 9), .ref (aX d + 10), .ref (aX d + 11)]) 6 a0 (aX d) [some 4, some 5, some 6, some 7, some 8, some 9, some 10, some 11, none, none, none, none]) (aX d + 10) = 0) ∧ (aK (own (adf (adn (adf (adn (adf (adn (adf (adn (adf (adz (adf (adz (adf (adz (adf (adz (adf (adz (adf (adz (adf (adz (adf (adz (d) 1 6) a0 [.int 0, .int 0, .int 0, .int 0, .ref (aX d + 0), .null, .null, .null, .null, .null, .null, .null, .null, .null, .null, .null]) 1 6) a0 [.int 0, .int 0, .int 0, .int 0, .ref (aX d + 0), .ref (aX d + 1), .null, .null, .null, .null, .null, .null, .null, .null, .null, .null]) 1 6) a0 [.int 0, .int 0, .int 0, .int 0, .ref (aX d + 0), .ref (aX d + 1), .ref (aX d + 2), .null, .null, .null, .null, .null, .null, .null, .null, .null]) 1 6) a0 [.int 0, .int 0, .int 0, .int 0, .ref (aX d + 0), .ref (aX d + 1), .ref (aX d + 2), .ref (aX d + 3), .null, .null, .null, .null, .null, .null, .null, .null]) 1 6) a0 [.int 0, .int 0, .int 0, .int 0, .ref (aX d + 0), .ref (aX d + 1), .ref (aX d + 2), .ref (aX d + 3), .ref (aX d + 4), .null, .null, .null, .null, .null, .null, .null]) 2 6) a0 [.int 0, .int 0, .int 0, .int 0, .ref (aX d + 0), .ref (aX d + 1), .ref (aX d + 2), .ref (aX d + 3), .ref (aX d + 4), .ref (aX d + 5), .null, .null, .null, .null, .null, .null]) 1 6) a0 [.int 0, .int 0, .int 0, .int 0, .ref (aX d + 0), .ref (aX d + 1), .ref (aX d + 2), .ref (aX d + 3), .ref (aX d + 4), .ref (aX d + 5), .ref (aX d + 6), .null, .null, .null, .null, .null]) 1 6) a0 [.int 0, .int 0, .int 0, .int 0, .ref (aX d + 0), .ref (aX d + 1), .ref (aX d + 2), .ref (aX d + 3), .ref (aX d + 4), .ref (aX d + 5), .ref (aX d + 6), .ref (aX d + 7), .null, .null, .null, .null]) 2 0) a0 [.int 0, .int 0, .int 0, .int 0, .ref (aX d + 0), .ref (aX d + 1), .ref (aX d + 2), .ref (aX d + 3), .ref (aX d + 4), .ref (aX d + 5), .ref (aX d + 6), .ref (aX d + 7), .ref (aX d + 8), .null, .null, .null]) 2 0) a0 [.int 0, .int 0, .int 0, .int 0, .ref (aX d + 0), .ref (aX d + 1), .ref (aX d + 2), .ref (aX d + 3), .ref (aX d + 4), .ref (aX d + 5), .ref (aX d + 6), .ref (aX d + 7), .ref (aX d + 8), .ref (aX d + 9), .null, .null]) 1 0) a0 [.int 0, .int 0, .int 0, .int 0, .ref (aX d + 0), .ref (aX d + 1), .ref (aX d + 2), .ref (aX d + 3), .ref (aX d + 4), .ref (aX d + 5), .ref (aX d + 6), .ref (aX d + 7), .ref (aX d + 8), .ref (aX d + 9), .ref (aX d + 10), .null]) 1 0) a0 [.int 0, .int 0, .int 0, .int 0, .ref (aX d + 0), .ref (aX d + 1), .ref (aX d + 2), .ref (aX d + 3), .ref (aX d + 4), .ref (aX d + 5), .ref (aX d + 6), .ref (aX d + 7), .ref (aX d + 8), .ref (aX d + 9), .ref (aX d + 10), .ref (aX d + 11)]) 6 a0 (aX d) [some 4, some 5, some 6, some 7, some 8, some 9, some 10, some 11, none, none, none, none]) (aX d + 11) = (2, 1, 0) ∧ aN (own (adf (adn (adf (adn (adf (adn (adf (adn (adf (adz (adf (adz (adf (adz (adf (adz (adf (adz (adf (adz (adf (adz (adf (adz (d) 1 6) a0 [.int 0, .int 0, .int 0, .int 0, .ref (aX d + 0), .null, .null, .null, .null, .null, .null, .null, .null, .null, .null, .null]) 1 6) a0 [.int 0, .int 0, .int 0, .int 0, .ref (aX d + 0), .ref (aX d + 1), .null, .null, .null, .null, .null, .null, .null, .null, .null, .null]) 1 6) a0 [.int 0, .int 0, .int 0, .int 0, .ref (aX d + 0), .ref (aX d + 1), .ref (aX d + 2), .null, .null, .null, .null, .null, .null, .null, .null, .null]) 1 6) a0 [.int 0, .int 0, .int 0, .int 0, .ref (aX d + 0), .ref (aX d + 1), .ref (aX d + 2), .ref (aX d + 3), .null, .null, .null, .null, .null, .null, .null, .null]) 1 6) a0 [.int 0, .int 0, .int 0, .int 0, .ref (aX d + 0), .ref (aX d + 1), .ref (aX d + 2), .ref (aX d + 3), .ref (aX d + 4), .null, .null, .null, .null, .null, .null, .null]) 2 6) a0 [.int 0, .int 0, .int 0, .int 0, .ref (aX d + 0), .ref (aX d + 1), .ref (aX d + 2), .ref (aX d + 3), .ref (aX d + 4), .ref (aX d + 5), .null, .null, .null, .null, .null, .null]) 1 6) a0 [.int 0, .int 0, .int 0, .int 0, .ref (aX d + 0), .ref (aX d + 1), .ref (aX d + 2), .ref (aX d + 3), .ref (aX d + 4), .ref (aX d + 5), .ref (aX d + 6), .null, .null, .null, .null, .null]) 1 6) a0 [.int 0, .int 0, .int 0, .int 0, .ref (aX d + 0), .ref (aX d + 1), .ref (aX d + 2), .ref (aX d + 3), .ref (aX d + 4), .ref (aX d + 5), .ref (aX d + 6), .ref (aX d + 7), .null, .null, .null, .null]) 2 0) a0 [.int 0, .int 0, .int 0, .int 0, .ref (aX d + 0), .ref (aX d + 1), .ref (aX d + 2), .ref (aX d + 3), .ref (aX d + 4), .ref (aX d + 5), .ref (aX d + 6), .ref (aX d + 7), .ref (aX d + 8), .null, .null, .null]) 2 0) a0 [.int 0, .int 0, .int 0, .int 0, .ref (aX d + 0), .ref (aX d + 1), .ref (aX d + 2), .ref (aX d + 3), .ref (aX d + 4), .ref (aX d + 5), .ref (aX d + 6), .ref (aX d + 7), .ref (aX d + 8), .ref (aX d + 9), .null, .null]) 1 0) a0 [.int 0, .int 0, .int 0, .int 0, .ref (aX d + 0), .ref (aX d + 1), .ref (aX d + 2), .ref (aX d + 3), .ref (aX d + 4), .ref (aX d + 5), .ref (aX d + 6), .ref (aX d + 7), .ref (aX d + 8), .ref (aX d + 9), .ref (aX d + 10), .null]) 1 0) a0 [.int 0, .int 0, .int 0, .int 0, .ref (aX d + 0), .ref (aX d + 1), .ref (aX d + 2), .ref (aX d + 3), .ref (aX d + 4), .ref (aX d + 5), .ref (aX d + 6), .ref (aX d + 7), .ref (aX d + 8), .ref (aX d + 9), .ref (aX d + 10), .ref (aX d + 11)]) 6 a0 (aX d) [some 4, some 5, some 6, some 7, some 8, some 9, some 10, some 11, none, none, none, none]) (aX d + 11) = 0) := by
  obtain ⟨D, rfl⟩ : ∃ E, D = E + 1 := ⟨D - 1, by omega⟩
  have hd0 := hW
  have W : Adw a0 d d := Adw.of Adx.rf
  refine ex_in (kl := kl_50) (nL := 1) rfl (by decide +kernel) (Nat.le_of_ble_eq_true rfl) ?_
  show Ends (EX D) (u_at kl_50) (0, [some (.ref a0)], [], h) _
  have hX : aX d = aX d + 0 := rfl
  refine en_segs [(0, .aload_n 0, []), (1, .invokespecial 3, []), (4, .aload_n 0, []), (5, .bipush 6, [])] (by decide +kernel) (y := (7, [some (.ref a0)], [.int 6, .ref a0], h)) rfl ?_
  refine en_nzA (N := 6) (B := aX d) (j := 0) (by decide +kernel : u_at kl_50 7 = some (.newarray .int, [1])) hW (by decide +kernel) (by decide +kernel) rfl hX hf ha0 (fun h e0 he0 hW x k0 n0 hX hf ha0 => ?_)
  have W := W.trans (Adw.of x)
  refine en_putA (fs' := [.int 0, .int 0, .int 0, .int 0, .ref (aX d + 0), .null, .null, .null, .null, .null, .null, .null, .null, .null, .null, .null]) (by decide +kernel : u_at kl_50 9 = some (.putfield 9, [6, 4, 3])) hW ha0 hf (Nat.le_of_ble_eq_true rfl) rfl rfl hX (fun h e1 he1 hW kq nq hX hf ha0 y => ?_)
  have W := W.trans y
  have k0 := (kq _).trans k0
  have n0 := (congrFun nq _).trans n0
  refine en_segs [(12, .aload_n 0, []), (13, .bipush 6, [])] (by decide +kernel) (y := (15, [some (.ref a0)], [.int 6, .ref a0], h)) rfl ?_
  refine en_nzA (N := 6) (B := aX d) (j := 1) (by decide +kernel : u_at kl_50 15 = some (.newarray .int, [1])) hW (by decide +kernel) (by decide +kernel) rfl hX hf ha0 (fun h e2 he2 hW x k1 n1 hX hf ha0 => ?_)
  have n0 := (x.2.2.2.2.2.2.2 _ _ k0).trans n0
  have k0 := x.z k0
  have W := W.trans (Adw.of x)
  refine en_putA (fs' := [.int 0, .int 0, .int 0, .int 0, .ref (aX d + 0), .ref (aX d + 1), .null, .null, .null, .null, .null, .null, .null, .null, .null, .null]) (by decide +kernel : u_at kl_50 17 = some (.putfield 15, [6, 5, 3])) hW ha0 hf (Nat.le_of_ble_eq_true rfl) rfl rfl hX (fun h e3 he3 hW kq nq hX hf ha0 y => ?_)
  have W := W.trans y
  have k0 := (kq _).trans k0
  have n0 := (congrFun nq _).trans n0
  have k1 := (kq _).trans k1
  have n1 := (congrFun nq _).trans n1
  refine en_segs [(20, .aload_n 0, []), (21, .bipush 6, [])] (by decide +kernel) (y := (23, [some (.ref a0)], [.int 6, .ref a0], h)) rfl ?_
  refine en_nzA (N := 6) (B := aX d) (j := 2) (by decide +kernel : u_at kl_50 23 = some (.newarray .int, [1])) hW (by decide +kernel) (by decide +kernel) rfl hX hf ha0 (fun h e4 he4 hW x k2 n2 hX hf ha0 => ?_)
  have n0 := (x.2.2.2.2.2.2.2 _ _ k0).trans n0
  have k0 := x.z k0
  have n1 := (x.2.2.2.2.2.2.2 _ _ k1).trans n1
  have k1 := x.z k1
  have W := W.trans (Adw.of x)
  refine en_putA (fs' := [.int 0, .int 0, .int 0, .int 0, .ref (aX d + 0), .ref (aX d + 1), .ref (aX d + 2), .null, .null, .null, .null, .null, .null, .null, .null, .null]) (by decide +kernel : u_at kl_50 25 = some (.putfield 18, [6, 6, 3])) hW ha0 hf (Nat.le_of_ble_eq_true rfl) rfl rfl hX (fun h e5 he5 hW kq nq hX hf ha0 y => ?_)
  have W := W.trans y
  have k0 := (kq _).trans k0
  have n0 := (congrFun nq _).trans n0
  have k1 := (kq _).trans k1
  have n1 := (congrFun nq _).trans n1
  have k2 := (kq _).trans k2
  have n2 := (congrFun nq _).trans n2
  refine en_segs [(28, .aload_n 0, []), (29, .bipush 6, [])] (by decide +kernel) (y := (31, [some (.ref a0)], [.int 6, .ref a0], h)) rfl ?_
  refine en_nzA (N := 6) (B := aX d) (j := 3) (by decide +kernel : u_at kl_50 31 = some (.newarray .int, [1])) hW (by decide +kernel) (by decide +kernel) rfl hX hf ha0 (fun h e6 he6 hW x k3 n3 hX hf ha0 => ?_)
  have n0 := (x.2.2.2.2.2.2.2 _ _ k0).trans n0
  have k0 := x.z k0
  have n1 := (x.2.2.2.2.2.2.2 _ _ k1).trans n1
  have k1 := x.z k1
  have n2 := (x.2.2.2.2.2.2.2 _ _ k2).trans n2
  have k2 := x.z k2
  have W := W.trans (Adw.of x)
  refine en_putA (fs' := [.int 0, .int 0, .int 0, .int 0, .ref (aX d + 0), .ref (aX d + 1), .ref (aX d + 2), .ref (aX d + 3), .null, .null, .null, .null, .null, .null, .null, .null]) (by decide +kernel : u_at kl_50 33 = some (.putfield 21, [6, 7, 3])) hW ha0 hf (Nat.le_of_ble_eq_true rfl) rfl rfl hX (fun h e7 he7 hW kq nq hX hf ha0 y => ?_)
  have W := W.trans y
  have k0 := (kq _).trans k0
  have n0 := (congrFun nq _).trans n0
  have k1 := (kq _).trans k1
  have n1 := (congrFun nq _).trans n1
  have k2 := (kq _).trans k2
  have n2 := (congrFun nq _).trans n2
  have k3 := (kq _).trans k3
  have n3 := (congrFun nq _).trans n3
  refine en_segs [(36, .aload_n 0, []), (37, .bipush 6, [])] (by decide +kernel) (y := (39, [some (.ref a0)], [.int 6, .ref a0], h)) rfl ?_
  refine en_nzA (N := 6) (B := aX d) (j := 4) (by decide +kernel : u_at kl_50 39 = some (.newarray .int, [1])) hW (by decide +kernel) (by decide +kernel) rfl hX hf ha0 (fun h e8 he8 hW x k4 n4 hX hf ha0 => ?_)
  have n0 := (x.2.2.2.2.2.2.2 _ _ k0).trans n0
  have k0 := x.z k0
  have n1 := (x.2.2.2.2.2.2.2 _ _ k1).trans n1
  have k1 := x.z k1
  have n2 := (x.2.2.2.2.2.2.2 _ _ k2).trans n2
  have k2 := x.z k2
  have n3 := (x.2.2.2.2.2.2.2 _ _ k3).trans n3
  have k3 := x.z k3
  have W := W.trans (Adw.of x)
  refine en_putA (fs' := [.int 0, .int 0, .int 0, .int 0, .ref (aX d + 0), .ref (aX d + 1), .ref (aX d + 2), .ref (aX d + 3), .ref (aX d + 4), .null, .null, .null, .null, .null, .null, .null]) (by decide +kernel : u_at kl_50 41 = some (.putfield 24, [6, 8, 3])) hW ha0 hf (Nat.le_of_ble_eq_true rfl) rfl rfl hX (fun h e9 he9 hW kq nq hX hf ha0 y => ?_)
  have W := W.trans y
  have k0 := (kq _).trans k0
  have n0 := (congrFun nq _).trans n0
  have k1 := (kq _).trans k1
  have n1 := (congrFun nq _).trans n1
  have k2 := (kq _).trans k2
  have n2 := (congrFun nq _).trans n2
  have k3 := (kq _).trans k3
  have n3 := (congrFun nq _).trans n3
  have k4 := (kq _).trans k4
  have n4 := (congrFun nq _).trans n4
  refine en_segs [(44, .aload_n 0, []), (45, .bipush 6, [])] (by decide +kernel) (y := (47, [some (.ref a0)], [.int 6, .ref a0], h)) rfl ?_
  refine en_nzA (N := 6) (B := aX d) (j := 5) (by decide +kernel : u_at kl_50 47 = some (.newarray .long, [2])) hW (by decide +kernel) (by decide +kernel) rfl hX hf ha0 (fun h e10 he10 hW x k5 n5 hX hf ha0 => ?_)
  have n0 := (x.2.2.2.2.2.2.2 _ _ k0).trans n0
  have k0 := x.z k0
  have n1 := (x.2.2.2.2.2.2.2 _ _ k1).trans n1
  have k1 := x.z k1
  have n2 := (x.2.2.2.2.2.2.2 _ _ k2).trans n2
  have k2 := x.z k2
  have n3 := (x.2.2.2.2.2.2.2 _ _ k3).trans n3
  have k3 := x.z k3
  have n4 := (x.2.2.2.2.2.2.2 _ _ k4).trans n4
  have k4 := x.z k4
  have W := W.trans (Adw.of x)
  refine en_putA (fs' := [.int 0, .int 0, .int 0, .int 0, .ref (aX d + 0), .ref (aX d + 1), .ref (aX d + 2), .ref (aX d + 3), .ref (aX d + 4), .ref (aX d + 5), .null, .null, .null, .null, .null, .null]) (by decide +kernel : u_at kl_50 49 = some (.putfield 27, [6, 9, 3])) hW ha0 hf (Nat.le_of_ble_eq_true rfl) rfl rfl hX (fun h e11 he11 hW kq nq hX hf ha0 y => ?_)
  have W := W.trans y
  have k0 := (kq _).trans k0
  have n0 := (congrFun nq _).trans n0
  have k1 := (kq _).trans k1
  have n1 := (congrFun nq _).trans n1
  have k2 := (kq _).trans k2
  have n2 := (congrFun nq _).trans n2
  have k3 := (kq _).trans k3
  have n3 := (congrFun nq _).trans n3
  have k4 := (kq _).trans k4
  have n4 := (congrFun nq _).trans n4
  have k5 := (kq _).trans k5
  have n5 := (congrFun nq _).trans n5
  refine en_segs [(52, .aload_n 0, []), (53, .bipush 6, [])] (by decide +kernel) (y := (55, [some (.ref a0)], [.int 6, .ref a0], h)) rfl ?_
  refine en_nzA (N := 6) (B := aX d) (j := 6) (by decide +kernel : u_at kl_50 55 = some (.newarray .int, [1])) hW (by decide +kernel) (by decide +kernel) rfl hX hf ha0 (fun h e12 he12 hW x k6 n6 hX hf ha0 => ?_)
  have n0 := (x.2.2.2.2.2.2.2 _ _ k0).trans n0
  have k0 := x.z k0
  have n1 := (x.2.2.2.2.2.2.2 _ _ k1).trans n1
  have k1 := x.z k1
  have n2 := (x.2.2.2.2.2.2.2 _ _ k2).trans n2
  have k2 := x.z k2
  have n3 := (x.2.2.2.2.2.2.2 _ _ k3).trans n3
  have k3 := x.z k3
  have n4 := (x.2.2.2.2.2.2.2 _ _ k4).trans n4
  have k4 := x.z k4
  have n5 := (x.2.2.2.2.2.2.2 _ _ k5).trans n5
  have k5 := x.z k5
  have W := W.trans (Adw.of x)
  refine en_putA (fs' := [.int 0, .int 0, .int 0, .int 0, .ref (aX d + 0), .ref (aX d + 1), .ref (aX d + 2), .ref (aX d + 3), .ref (aX d + 4), .ref (aX d + 5), .ref (aX d + 6), .null, .null, .null, .null, .null]) (by decide +kernel : u_at kl_50 57 = some (.putfield 31, [6, 10, 3])) hW ha0 hf (Nat.le_of_ble_eq_true rfl) rfl rfl hX (fun h e13 he13 hW kq nq hX hf ha0 y => ?_)
  have W := W.trans y
  have k0 := (kq _).trans k0
  have n0 := (congrFun nq _).trans n0
  have k1 := (kq _).trans k1
  have n1 := (congrFun nq _).trans n1
  have k2 := (kq _).trans k2
  have n2 := (congrFun nq _).trans n2
  have k3 := (kq _).trans k3
  have n3 := (congrFun nq _).trans n3
  have k4 := (kq _).trans k4
  have n4 := (congrFun nq _).trans n4
  have k5 := (kq _).trans k5
  have n5 := (congrFun nq _).trans n5
  have k6 := (kq _).trans k6
  have n6 := (congrFun nq _).trans n6
  refine en_segs [(60, .aload_n 0, []), (61, .bipush 6, [])] (by decide +kernel) (y := (63, [some (.ref a0)], [.int 6, .ref a0], h)) rfl ?_
  refine en_nzA (N := 6) (B := aX d) (j := 7) (by decide +kernel : u_at kl_50 63 = some (.newarray .int, [1])) hW (by decide +kernel) (by decide +kernel) rfl hX hf ha0 (fun h e14 he14 hW x k7 n7 hX hf ha0 => ?_)
  have n0 := (x.2.2.2.2.2.2.2 _ _ k0).trans n0
  have k0 := x.z k0
  have n1 := (x.2.2.2.2.2.2.2 _ _ k1).trans n1
  have k1 := x.z k1
  have n2 := (x.2.2.2.2.2.2.2 _ _ k2).trans n2
  have k2 := x.z k2
  have n3 := (x.2.2.2.2.2.2.2 _ _ k3).trans n3
  have k3 := x.z k3
  have n4 := (x.2.2.2.2.2.2.2 _ _ k4).trans n4
  have k4 := x.z k4
  have n5 := (x.2.2.2.2.2.2.2 _ _ k5).trans n5
  have k5 := x.z k5
  have n6 := (x.2.2.2.2.2.2.2 _ _ k6).trans n6
  have k6 := x.z k6
  have W := W.trans (Adw.of x)
  refine en_putA (fs' := [.int 0, .int 0, .int 0, .int 0, .ref (aX d + 0), .ref (aX d + 1), .ref (aX d + 2), .ref (aX d + 3), .ref (aX d + 4), .ref (aX d + 5), .ref (aX d + 6), .ref (aX d + 7), .null, .null, .null, .null]) (by decide +kernel : u_at kl_50 65 = some (.putfield 34, [6, 11, 3])) hW ha0 hf (Nat.le_of_ble_eq_true rfl) rfl rfl hX (fun h e15 he15 hW kq nq hX hf ha0 y => ?_)
  have W := W.trans y
  have k0 := (kq _).trans k0
  have n0 := (congrFun nq _).trans n0
  have k1 := (kq _).trans k1
  have n1 := (congrFun nq _).trans n1
  have k2 := (kq _).trans k2
  have n2 := (congrFun nq _).trans n2
  have k3 := (kq _).trans k3
  have n3 := (congrFun nq _).trans n3
  have k4 := (kq _).trans k4
  have n4 := (congrFun nq _).trans n4
  have k5 := (kq _).trans k5
  have n5 := (congrFun nq _).trans n5
  have k6 := (kq _).trans k6
  have n6 := (congrFun nq _).trans n6
  have k7 := (kq _).trans k7
  have n7 := (congrFun nq _).trans n7
  refine en_segs [(68, .aload_n 0, []), (69, .iconst 0, [])] (by decide +kernel) (y := (70, [some (.ref a0)], [.int 0, .ref a0], h)) rfl ?_
  refine en_nfL (N := 0) (B := aX d) (j := 8) (by decide +kernel : u_at kl_50 70 = some (.newarray .long, [2])) hW (by decide +kernel) (by decide +kernel) hX hf ha0 (fun h e16 he16 hW x k8 n8 hX hf ha0 => ?_)
  have hW : HW (mkw c0 c1 c2 c3 c4 c5 c6 c7 c8 c9 c10 c11 c12 (sB c13 0 (aX d + 8) (fun _ => 0))) e16 h := hW
  have n0 := (x.2.2.2.2.2.2.2 _ _ k0).trans n0
  have k0 := x.z k0
  have n1 := (x.2.2.2.2.2.2.2 _ _ k1).trans n1
  have k1 := x.z k1
  have n2 := (x.2.2.2.2.2.2.2 _ _ k2).trans n2
  have k2 := x.z k2
  have n3 := (x.2.2.2.2.2.2.2 _ _ k3).trans n3
  have k3 := x.z k3
  have n4 := (x.2.2.2.2.2.2.2 _ _ k4).trans n4
  have k4 := x.z k4
  have n5 := (x.2.2.2.2.2.2.2 _ _ k5).trans n5
  have k5 := x.z k5
  have n6 := (x.2.2.2.2.2.2.2 _ _ k6).trans n6
  have k6 := x.z k6
  have n7 := (x.2.2.2.2.2.2.2 _ _ k7).trans n7
  have k7 := x.z k7
  have W := W.trans (Adw.of x)
  refine en_putA (fs' := [.int 0, .int 0, .int 0, .int 0, .ref (aX d + 0), .ref (aX d + 1), .ref (aX d + 2), .ref (aX d + 3), .ref (aX d + 4), .ref (aX d + 5), .ref (aX d + 6), .ref (aX d + 7), .ref (aX d + 8), .null, .null, .null]) (by decide +kernel : u_at kl_50 72 = some (.putfield 37, [6, 12, 3])) hW ha0 hf (Nat.le_of_ble_eq_true rfl) rfl rfl hX (fun h e17 he17 hW kq nq hX hf ha0 y => ?_)
  have W := W.trans y
  have k0 := (kq _).trans k0
  have n0 := (congrFun nq _).trans n0
  have k1 := (kq _).trans k1
  have n1 := (congrFun nq _).trans n1
  have k2 := (kq _).trans k2
  have n2 := (congrFun nq _).trans n2
  have k3 := (kq _).trans k3
  have n3 := (congrFun nq _).trans n3
  have k4 := (kq _).trans k4
  have n4 := (congrFun nq _).trans n4
  have k5 := (kq _).trans k5
  have n5 := (congrFun nq _).trans n5
  have k6 := (kq _).trans k6
  have n6 := (congrFun nq _).trans n6
  have k7 := (kq _).trans k7
  have n7 := (congrFun nq _).trans n7
  have k8 := (kq _).trans k8
  have n8 := (congrFun nq _).trans n8
  refine en_segs [(75, .aload_n 0, []), (76, .iconst 0, [])] (by decide +kernel) (y := (77, [some (.ref a0)], [.int 0, .ref a0], h)) rfl ?_
  refine en_nfL (N := 0) (B := aX d) (j := 9) (by decide +kernel : u_at kl_50 77 = some (.newarray .long, [2])) hW (by decide +kernel) (by decide +kernel) hX hf ha0 (fun h e18 he18 hW x k9 n9 hX hf ha0 => ?_)
  have hW : HW (mkw c0 c1 c2 c3 c4 c5 c6 c7 c8 c9 c10 c11 c12 (sB (sB c13 0 (aX d + 8) (fun _ => 0)) 0 (aX d + 9) (fun _ => 0))) e18 h := hW
  have n0 := (x.2.2.2.2.2.2.2 _ _ k0).trans n0
  have k0 := x.z k0
  have n1 := (x.2.2.2.2.2.2.2 _ _ k1).trans n1
  have k1 := x.z k1
  have n2 := (x.2.2.2.2.2.2.2 _ _ k2).trans n2
  have k2 := x.z k2
  have n3 := (x.2.2.2.2.2.2.2 _ _ k3).trans n3
  have k3 := x.z k3
  have n4 := (x.2.2.2.2.2.2.2 _ _ k4).trans n4
  have k4 := x.z k4
  have n5 := (x.2.2.2.2.2.2.2 _ _ k5).trans n5
  have k5 := x.z k5
  have n6 := (x.2.2.2.2.2.2.2 _ _ k6).trans n6
  have k6 := x.z k6
  have n7 := (x.2.2.2.2.2.2.2 _ _ k7).trans n7
  have k7 := x.z k7
  have n8 := (x.2.2.2.1 _ _ k8).trans n8
  have k8 := x.f k8
  have W := W.trans (Adw.of x)
  refine en_putA (fs' := [.int 0, .int 0, .int 0, .int 0, .ref (aX d + 0), .ref (aX d + 1), .ref (aX d + 2), .ref (aX d + 3), .ref (aX d + 4), .ref (aX d + 5), .ref (aX d + 6), .ref (aX d + 7), .ref (aX d + 8), .ref (aX d + 9), .null, .null]) (by decide +kernel : u_at kl_50 79 = some (.putfield 40, [6, 13, 3])) hW ha0 hf (Nat.le_of_ble_eq_true rfl) rfl rfl hX (fun h e19 he19 hW kq nq hX hf ha0 y => ?_)
  have W := W.trans y
  have k0 := (kq _).trans k0
  have n0 := (congrFun nq _).trans n0
  have k1 := (kq _).trans k1
  have n1 := (congrFun nq _).trans n1
  have k2 := (kq _).trans k2
  have n2 := (congrFun nq _).trans n2
  have k3 := (kq _).trans k3
  have n3 := (congrFun nq _).trans n3
  have k4 := (kq _).trans k4
  have n4 := (congrFun nq _).trans n4
  have k5 := (kq _).trans k5
  have n5 := (congrFun nq _).trans n5
  have k6 := (kq _).trans k6
  have n6 := (congrFun nq _).trans n6
  have k7 := (kq _).trans k7
  have n7 := (congrFun nq _).trans n7
  have k8 := (kq _).trans k8
  have n8 := (congrFun nq _).trans n8
  have k9 := (kq _).trans k9
  have n9 := (congrFun nq _).trans n9
  refine en_segs [(82, .aload_n 0, []), (83, .iconst 0, [])] (by decide +kernel) (y := (84, [some (.ref a0)], [.int 0, .ref a0], h)) rfl ?_
  refine en_nfI (N := 0) (B := aX d) (j := 10) (by decide +kernel : u_at kl_50 84 = some (.newarray .int, [1])) hW (by decide +kernel) (by decide +kernel) hX hf ha0 (fun h e20 he20 hW x k10 n10 hX hf ha0 => ?_)
  have hW : HW (mkw c0 c1 c2 c3 c4 c5 c6 c7 c8 c9 c10 c11 c12 (sA (sB (sB c13 0 (aX d + 8) (fun _ => 0)) 0 (aX d + 9) (fun _ => 0)) 0 (aX d + 10) (fun _ => 0))) e20 h := hW
  have n0 := (x.2.2.2.2.2.2.2 _ _ k0).trans n0
  have k0 := x.z k0
  have n1 := (x.2.2.2.2.2.2.2 _ _ k1).trans n1
  have k1 := x.z k1
  have n2 := (x.2.2.2.2.2.2.2 _ _ k2).trans n2
  have k2 := x.z k2
  have n3 := (x.2.2.2.2.2.2.2 _ _ k3).trans n3
  have k3 := x.z k3
  have n4 := (x.2.2.2.2.2.2.2 _ _ k4).trans n4
  have k4 := x.z k4
  have n5 := (x.2.2.2.2.2.2.2 _ _ k5).trans n5
  have k5 := x.z k5
  have n6 := (x.2.2.2.2.2.2.2 _ _ k6).trans n6
  have k6 := x.z k6
  have n7 := (x.2.2.2.2.2.2.2 _ _ k7).trans n7
  have k7 := x.z k7
  have n8 := (x.2.2.2.1 _ _ k8).trans n8
  have k8 := x.f k8
  have n9 := (x.2.2.2.1 _ _ k9).trans n9
  have k9 := x.f k9
  have W := W.trans (Adw.of x)
  refine en_putA (fs' := [.int 0, .int 0, .int 0, .int 0, .ref (aX d + 0), .ref (aX d + 1), .ref (aX d + 2), .ref (aX d + 3), .ref (aX d + 4), .ref (aX d + 5), .ref (aX d + 6), .ref (aX d + 7), .ref (aX d + 8), .ref (aX d + 9), .ref (aX d + 10), .null]) (by decide +kernel : u_at kl_50 86 = some (.putfield 43, [6, 14, 3])) hW ha0 hf (Nat.le_of_ble_eq_true rfl) rfl rfl hX (fun h e21 he21 hW kq nq hX hf ha0 y => ?_)
  have W := W.trans y
  have k0 := (kq _).trans k0
  have n0 := (congrFun nq _).trans n0
  have k1 := (kq _).trans k1
  have n1 := (congrFun nq _).trans n1
  have k2 := (kq _).trans k2
  have n2 := (congrFun nq _).trans n2
  have k3 := (kq _).trans k3
  have n3 := (congrFun nq _).trans n3
  have k4 := (kq _).trans k4
  have n4 := (congrFun nq _).trans n4
  have k5 := (kq _).trans k5
  have n5 := (congrFun nq _).trans n5
  have k6 := (kq _).trans k6
  have n6 := (congrFun nq _).trans n6
  have k7 := (kq _).trans k7
  have n7 := (congrFun nq _).trans n7
  have k8 := (kq _).trans k8
  have n8 := (congrFun nq _).trans n8
  have k9 := (kq _).trans k9
  have n9 := (congrFun nq _).trans n9
  have k10 := (kq _).trans k10
  have n10 := (congrFun nq _).trans n10
  refine en_segs [(89, .aload_n 0, []), (90, .iconst 0, [])] (by decide +kernel) (y := (91, [some (.ref a0)], [.int 0, .ref a0], h)) rfl ?_
  refine en_nfI (N := 0) (B := aX d) (j := 11) (by decide +kernel : u_at kl_50 91 = some (.newarray .int, [1])) hW (by decide +kernel) (by decide +kernel) hX hf ha0 (fun h e22 he22 hW x k11 n11 hX hf ha0 => ?_)
  have hW : HW (mkw c0 c1 c2 c3 c4 c5 c6 c7 c8 c9 c10 c11 c12 (sA (sA (sB (sB c13 0 (aX d + 8) (fun _ => 0)) 0 (aX d + 9) (fun _ => 0)) 0 (aX d + 10) (fun _ => 0)) 0 (aX d + 11) (fun _ => 0))) e22 h := hW
  have n0 := (x.2.2.2.2.2.2.2 _ _ k0).trans n0
  have k0 := x.z k0
  have n1 := (x.2.2.2.2.2.2.2 _ _ k1).trans n1
  have k1 := x.z k1
  have n2 := (x.2.2.2.2.2.2.2 _ _ k2).trans n2
  have k2 := x.z k2
  have n3 := (x.2.2.2.2.2.2.2 _ _ k3).trans n3
  have k3 := x.z k3
  have n4 := (x.2.2.2.2.2.2.2 _ _ k4).trans n4
  have k4 := x.z k4
  have n5 := (x.2.2.2.2.2.2.2 _ _ k5).trans n5
  have k5 := x.z k5
  have n6 := (x.2.2.2.2.2.2.2 _ _ k6).trans n6
  have k6 := x.z k6
  have n7 := (x.2.2.2.2.2.2.2 _ _ k7).trans n7
  have k7 := x.z k7
  have n8 := (x.2.2.2.1 _ _ k8).trans n8
  have k8 := x.f k8
  have n9 := (x.2.2.2.1 _ _ k9).trans n9
  have k9 := x.f k9
  have n10 := (x.2.2.2.1 _ _ k10).trans n10
  have k10 := x.f k10
  have W := W.trans (Adw.of x)
  refine en_putA (fs' := [.int 0, .int 0, .int 0, .int 0, .ref (aX d + 0), .ref (aX d + 1), .ref (aX d + 2), .ref (aX d + 3), .ref (aX d + 4), .ref (aX d + 5), .ref (aX d + 6), .ref (aX d + 7), .ref (aX d + 8), .ref (aX d + 9), .ref (aX d + 10), .ref (aX d + 11)]) (by decide +kernel : u_at kl_50 93 = some (.putfield 46, [6, 15, 3])) hW ha0 hf (Nat.le_of_ble_eq_true rfl) rfl rfl hX (fun h e23 he23 hW kq nq hX hf ha0 y => ?_)
  have W := W.trans y
  have k0 := (kq _).trans k0
  have n0 := (congrFun nq _).trans n0
  have k1 := (kq _).trans k1
  have n1 := (congrFun nq _).trans n1
  have k2 := (kq _).trans k2
  have n2 := (congrFun nq _).trans n2
  have k3 := (kq _).trans k3
  have n3 := (congrFun nq _).trans n3
  have k4 := (kq _).trans k4
  have n4 := (congrFun nq _).trans n4
  have k5 := (kq _).trans k5
  have n5 := (congrFun nq _).trans n5
  have k6 := (kq _).trans k6
  have n6 := (congrFun nq _).trans n6
  have k7 := (kq _).trans k7
  have n7 := (congrFun nq _).trans n7
  have k8 := (kq _).trans k8
  have n8 := (congrFun nq _).trans n8
  have k9 := (kq _).trans k9
  have n9 := (congrFun nq _).trans n9
  have k10 := (kq _).trans k10
  have n10 := (congrFun nq _).trans n10
  have k11 := (kq _).trans k11
  have n11 := (congrFun nq _).trans n11
  have WO := own_w (c := 6) (X := aX d) (l := [some 4, some 5, some 6, some 7, some 8, some 9, some 10, some 11, none, none, none, none]) hd0 (Nat.le_refl _) W
  have hO : HW (mkw c0 c1 c2 c3 c4 c5 (sR (sR (sR (sR (zat c6 a0) 12 a0 (aX d + 8)) 13 a0 (aX d + 9)) 14 a0 (aX d + 10)) 15 a0 (aX d + 11)) c7 c8 c9 c10 c11 c12 (sA (sA (sB (sB c13 0 (aX d + 8) (fun _ => 0)) 0 (aX d + 9) (fun _ => 0)) 0 (aX d + 10) (fun _ => 0)) 0 (aX d + 11) (fun _ => 0))) (own e23 6 a0 (aX d) [some 4, some 5, some 6, some 7, some 8, some 9, some 10, some 11, none, none, none, none]) h := by
    refine hw_own2 (c := 6) (a := a0) (X := aX d) (l := [some 4, some 5, some 6, some 7, some 8, some 9, some 10, some 11, none, none, none, none]) (x := (sR (sR (sR (sR (zat c6 a0) 12 a0 (aX d + 8)) 13 a0 (aX d + 9)) 14 a0 (aX d + 10)) 15 a0 (aX d + 11))) hW (by decide) ha0 (by decide +kernel) (fun i k e => ?_) (fun k b g => ?_) (fun k => ?_) ?_ (fun k hk h3 => ?_)
    · rcases i with _ | _ | _ | _ | _ | _ | _ | _ | _ | _ | _ | _ | i
      · cases e; exact ⟨k0, n0⟩
      · cases e; exact ⟨k1, n1⟩
      · cases e; exact ⟨k2, n2⟩
      · cases e; exact ⟨k3, n3⟩
      · cases e; exact ⟨k4, n4⟩
      · cases e; exact ⟨k5, n5⟩
      · cases e; exact ⟨k6, n6⟩
      · cases e; exact ⟨k7, n7⟩
      · cases e
      · cases e
      · cases e
      · cases e
      · cases e
    · show cI _ k b = cI c6 k b ∧ cJ _ k b = cJ c6 k b ∧ cR _ k b = cR c6 k b ∧ cA _ k b = cA c6 k b ∧ cB _ k b = cB c6 k b ∧ cQ _ k b = cQ c6 k b
      simp [sI, sJ, sR, zat, cI, cJ, cR, cA, cB, cQ, up2, g]
    · simp [sI, sJ, sR, zat, cI, cJ, cR, cA, cB, cQ, up2]
    · rw [hf]
      show _ = ([.int (cI (sR (sR (sR (sR (zat c6 a0) 12 a0 (aX d + 8)) 13 a0 (aX d + 9)) 14 a0 (aX d + 10)) 15 a0 (aX d + 11)) 0 a0), .int (cI (sR (sR (sR (sR (zat c6 a0) 12 a0 (aX d + 8)) 13 a0 (aX d + 9)) 14 a0 (aX d + 10)) 15 a0 (aX d + 11)) 1 a0), .int (cI (sR (sR (sR (sR (zat c6 a0) 12 a0 (aX d + 8)) 13 a0 (aX d + 9)) 14 a0 (aX d + 10)) 15 a0 (aX d + 11)) 2 a0), .int (cI (sR (sR (sR (sR (zat c6 a0) 12 a0 (aX d + 8)) 13 a0 (aX d + 9)) 14 a0 (aX d + 10)) 15 a0 (aX d + 11)) 3 a0), .ref (if a0 = a0 then aX d + List.idxOf (some 4) [some 4, some 5, some 6, some 7, some 8, some 9, some 10, some 11, none, none, none, none] else aP e23 6 4 a0), .ref (if a0 = a0 then aX d + List.idxOf (some 5) [some 4, some 5, some 6, some 7, some 8, some 9, some 10, some 11, none, none, none, none] else aP e23 6 5 a0), .ref (if a0 = a0 then aX d + List.idxOf (some 6) [some 4, some 5, some 6, some 7, some 8, some 9, some 10, some 11, none, none, none, none] else aP e23 6 6 a0), .ref (if a0 = a0 then aX d + List.idxOf (some 7) [some 4, some 5, some 6, some 7, some 8, some 9, some 10, some 11, none, none, none, none] else aP e23 6 7 a0), .ref (if a0 = a0 then aX d + List.idxOf (some 8) [some 4, some 5, some 6, some 7, some 8, some 9, some 10, some 11, none, none, none, none] else aP e23 6 8 a0), .ref (if a0 = a0 then aX d + List.idxOf (some 9) [some 4, some 5, some 6, some 7, some 8, some 9, some 10, some 11, none, none, none, none] else aP e23 6 9 a0), .ref (if a0 = a0 then aX d + List.idxOf (some 10) [some 4, some 5, some 6, some 7, some 8, some 9, some 10, some 11, none, none, none, none] else aP e23 6 10 a0), .ref (if a0 = a0 then aX d + List.idxOf (some 11) [some 4, some 5, some 6, some 7, some 8, some 9, some 10, some 11, none, none, none, none] else aP e23 6 11 a0), .ref (cR (sR (sR (sR (sR (zat c6 a0) 12 a0 (aX d + 8)) 13 a0 (aX d + 9)) 14 a0 (aX d + 10)) 15 a0 (aX d + 11)) 12 a0), .ref (cR (sR (sR (sR (sR (zat c6 a0) 12 a0 (aX d + 8)) 13 a0 (aX d + 9)) 14 a0 (aX d + 10)) 15 a0 (aX d + 11)) 13 a0), .ref (cR (sR (sR (sR (sR (zat c6 a0) 12 a0 (aX d + 8)) 13 a0 (aX d + 9)) 14 a0 (aX d + 10)) 15 a0 (aX d + 11)) 14 a0), .ref (cR (sR (sR (sR (sR (zat c6 a0) 12 a0 (aX d + 8)) 13 a0 (aX d + 9)) 14 a0 (aX d + 10)) 15 a0 (aX d + 11)) 15 a0)] : List Value)
      simp [sI, sJ, sR, zat, cI, cJ, cR, cA, cB, cQ, up2, List.idxOf, List.findIdx, List.findIdx.go]
    · rcases k with _ | _ | _ | _ | _ | _ | _ | _ | _ | _ | _ | _ | _ | _ | _ | _ | k
      · exact True.intro
      · exact True.intro
      · exact True.intro
      · exact True.intro
      · exact absurd rfl h3
      · exact absurd rfl h3
      · exact absurd rfl h3
      · exact absurd rfl h3
      · exact absurd rfl h3
      · exact absurd rfl h3
      · exact absurd rfl h3
      · exact absurd rfl h3
      · show aK _ (cR (sR (sR (sR (sR (zat c6 a0) 12 a0 (aX d + 8)) 13 a0 (aX d + 9)) 14 a0 (aX d + 10)) 15 a0 (aX d + 11)) 12 a0) = _
        have : cR (sR (sR (sR (sR (zat c6 a0) 12 a0 (aX d + 8)) 13 a0 (aX d + 9)) 14 a0 (aX d + 10)) 15 a0 (aX d + 11)) 12 a0 = (aX d + 8) := by simp [sI, sJ, sR, zat, cI, cJ, cR, cA, cB, cQ, up2]
        rw [this]; exact own_f k8 ha0 rfl
      · show aK _ (cR (sR (sR (sR (sR (zat c6 a0) 12 a0 (aX d + 8)) 13 a0 (aX d + 9)) 14 a0 (aX d + 10)) 15 a0 (aX d + 11)) 13 a0) = _
        have : cR (sR (sR (sR (sR (zat c6 a0) 12 a0 (aX d + 8)) 13 a0 (aX d + 9)) 14 a0 (aX d + 10)) 15 a0 (aX d + 11)) 13 a0 = (aX d + 9) := by simp [sI, sJ, sR, zat, cI, cJ, cR, cA, cB, cQ, up2]
        rw [this]; exact own_f k9 ha0 rfl
      · show aK _ (cR (sR (sR (sR (sR (zat c6 a0) 12 a0 (aX d + 8)) 13 a0 (aX d + 9)) 14 a0 (aX d + 10)) 15 a0 (aX d + 11)) 14 a0) = _
        have : cR (sR (sR (sR (sR (zat c6 a0) 12 a0 (aX d + 8)) 13 a0 (aX d + 9)) 14 a0 (aX d + 10)) 15 a0 (aX d + 11)) 14 a0 = (aX d + 10) := by simp [sI, sJ, sR, zat, cI, cJ, cR, cA, cB, cQ, up2]
        rw [this]; exact own_f k10 ha0 rfl
      · show aK _ (cR (sR (sR (sR (sR (zat c6 a0) 12 a0 (aX d + 8)) 13 a0 (aX d + 9)) 14 a0 (aX d + 10)) 15 a0 (aX d + 11)) 15 a0) = _
        have : cR (sR (sR (sR (sR (zat c6 a0) 12 a0 (aX d + 8)) 13 a0 (aX d + 9)) 14 a0 (aX d + 10)) 15 a0 (aX d + 11)) 15 a0 = (aX d + 11) := by simp [sI, sJ, sR, zat, cI, cJ, cR, cA, cB, cQ, up2]
        rw [this]; exact own_f k11 ha0 rfl
      · exact absurd hk (Nat.not_lt.mpr (Nat.le_add_left _ _))
  exact en_ret (by decide +kernel : u_at kl_50 96 = some (.return_, [])) rfl (by subst he23 he22 he21 he20 he19 he18 he17 he16 he15 he14 he13 he12 he11 he10 he9 he8 he7 he6 he5 he4 he3 he2 he1 he0; exact ⟨rfl, hO, WO, ⟨own_f k8 ha0 rfl, n8⟩, ⟨own_f k9 ha0 rfl, n9⟩, ⟨own_f k10 ha0 rfl, n10⟩, ⟨own_f k11 ha0 rfl, n11⟩⟩)
set_option maxRecDepth 100000 in
set_option maxHeartbeats 4000000 in
theorem e_107 {D : Nat} {c0 c1 c2 c3 c4 c5 c6 c7 c8 c9 c10 c11 c12 c13 : Cl} {d : Ad} {h : UH} {a0 a1 : Nat} (hD : 1 ≤ D) (hW : HW (mkw c0 c1 c2 c3 c4 c5 c6 c7 c8 c9 c10 c11 c12 c13) d h) (ha0 : aK d a0 = (3, 9, 0)) (hf : aF d a0 = [.null, .int 0, .null, .null, .null, .null, .null, .null, .null]) (ha1 : aK d a1 = (0, 6, 0)) : ∃ q, EX D 107 [.ref a0, .ref a1] h q ∧ q.1 = none ∧ HW (mkw c0 c1 c2 c3 c4 c5 c6 c7 c8 (sR (sR (sR (zat c9 a0) 5 a0 (aX d + 3)) 6 a0 (aX d + 4)) 0 a0 a1) c10 c11 c12 (sB (sB c13 0 (aX d + 3) (fun _ => 0)) 0 (aX d + 4) (fun _ => 0))) (own (adf (adf (adz (adf (adz (adf (adn (adf (adn (adf (adz (adf (adz (adf (adz (d) 1 36) a0 [.null, .int 0, .ref (aX d + 0), .null, .null, .null, .null, .null, .null]) 1 36) a0 [.null, .int 0, .ref (aX d + 0), .ref (aX d + 1), .null, .null, .null, .null, .null]) 1 36) a0 [.null, .int 0, .ref (aX d + 0), .ref (aX d + 1), .ref (aX d + 2), .null, .null, .null, .null]) 2 64) a0 [.null, .int 0, .ref (aX d + 0), .ref (aX d + 1), .ref (aX d + 2), .ref (aX d + 3), .null, .null, .null]) 2 64) a0 [.null, .int 0, .ref (aX d + 0), .ref (aX d + 1), .ref (aX d + 2), .ref (aX d + 3), .ref (aX d + 4), .null, .null]) 1 6) a0 [.null, .int 0, .ref (aX d + 0), .ref (aX d + 1), .ref (aX d + 2), .ref (aX d + 3), .ref (aX d + 4), .ref (aX d + 5), .null]) 1 6) a0 [.null, .int 0, .ref (aX d + 0), .ref (aX d + 1), .ref (aX d + 2), .ref (aX d + 3), .ref (aX d + 4), .ref (aX d + 5), .ref (aX d + 6)]) a0 [.ref a1, .int 0, .ref (aX d + 0), .ref (aX d + 1), .ref (aX d + 2), .ref (aX d + 3), .ref (aX d + 4), .ref (aX d + 5), .ref (aX d + 6)]) 9 a0 (aX d) [some 2, some 3, some 4, none, none, some 7, some 8]) q.2 ∧ Adw a0 d (own (adf (adf (adz (adf (adz (adf (adn (adf (adn (adf (adz (adf (adz (adf (adz (d) 1 36) a0 [.null, .int 0, .ref (aX d + 0), .null, .null, .null, .null, .null, .null]) 1 36) a0 [.null, .int 0, .ref (aX d + 0), .ref (aX d + 1), .null, .null, .null, .null, .null]) 1 36) a0 [.null, .int 0, .ref (aX d + 0), .ref (aX d + 1), .ref (aX d + 2), .null, .null, .null, .null]) 2 64) a0 [.null, .int 0, .ref (aX d + 0), .ref (aX d + 1), .ref (aX d + 2), .ref (aX d + 3), .null, .null, .null]) 2 64) a0 [.null, .int 0, .ref (aX d + 0), .ref (aX d + 1), .ref (aX d + 2), .ref (aX d + 3), .ref (aX d + 4), .null, .null]) 1 6) a0 [.null, .int 0, .ref (aX d + 0), .ref (aX d + 1), .ref (aX d + 2), .ref (aX d + 3), .ref (aX d + 4), .ref (aX d + 5), .null]) 1 6) a0 [.null, .int 0, .ref (aX d + 0), .ref (aX d + 1), .ref (aX d + 2), .ref (aX d + 3), .ref (aX d + 4), .ref (aX d + 5), .ref (aX d + 6)]) a0 [.ref a1, .int 0, .ref (aX d + 0), .ref (aX d + 1), .ref (aX d + 2), .ref (aX d + 3), .ref (aX d + 4), .ref (aX d + 5), .ref (aX d + 6)]) 9 a0 (aX d) [some 2, some 3, some 4, none, none, some 7, some 8]) ∧ (aK (own (adf (adf (adz (adf (adz (adf (adn (adf (adn (adf (adz (adf (adz (adf (adz (d) 1 36) a0 [.null, .int 0, .ref (aX d + 0), .null, .null, .null, .null, .null, .null]) 1 36) a0 [.null, .int 0, .ref (aX d + 0), .ref (aX d + 1), .null, .null, .null, .null, .null]) 1 36) a0 [.null, .int 0, .ref (aX d + 0), .ref (aX d + 1), .ref (aX d + 2), .null, .null, .null, .null]) 2 64) a0 [.null, .int 0, .ref (aX d + 0), .ref (aX d + 1), .ref (aX d + 2), .ref (aX d + 3), .null, .null, .null]) 2 64) a0 [.null, .int 0, .ref (aX d + 0), .ref (aX d + 1), .ref (aX d + 2), .ref (aX d + 3), .ref (aX d + 4), .null, .null]) 1 6) a0 [.null, .int 0, .ref (aX d + 0), .ref (aX d + 1), .ref (aX d + 2), .ref (aX d + 3), .ref (aX d + 4), .ref (aX d + 5), .null]) 1 6) a0 [.null, .int 0, .ref (aX d + 0), .ref (aX d + 1), .ref (aX d + 2), .ref (aX d + 3), .ref (aX d + 4), .ref (aX d + 5), .ref (aX d + 6)]) a0 [.ref a1, .int 0, .ref (aX d + 0), .ref (aX d + 1), .ref (aX d + 2), .ref (aX d + 3), .ref (aX d + 4), .ref (aX d + 5), .ref (aX d + 6)]) 9 a0 (aX d) [some 2, some 3, some 4, none, none, some 7, some 8]) (aX d + 3) = (2, 2, 0) ∧ aN (own (adf (adf (adz (adf (adz (adf (adn (adf (adn (adf (adz (adf (adz (adf (adz (d) 1 36) a0 [.null, .int 0, .ref (aX d + 0), .null, .null, .null, .null, .null, .null]) 1 36) a0 [.null, .int 0, .ref (aX d + 0), .ref (aX d + 1), .null, .null, .null, .null, .null]) 1 36) a0 [.null, .int 0, .ref (aX d + 0), .ref (aX d + 1), .ref (aX d + 2), .null, .null, .null, .null]) 2 64) a0 [.null, .int 0, .ref (aX d + 0), .ref (aX d + 1), .ref (aX d + 2), .ref (aX d + 3), .null, .null, .null]) 2 64) a0 [.null, .int 0, .ref (aX d + 0), .ref (aX d + 1), .ref (aX d + 2), .ref (aX d + 3), .ref (aX d + 4), .null, .null]) 1 6) a0 [.null, .int 0, .ref (aX d + 0), .ref (aX d + 1), .ref (aX d + 2), .ref (aX d + 3), .ref (aX d + 4), .ref (aX d + 5), .null]) 1 6) a0 [.null, .int 0, .ref (aX d + 0), .ref (aX d + 1), .ref (aX d + 2), .ref (aX d + 3), .ref (aX d + 4), .ref (aX d + 5), .ref (aX d + 6)]) a0 [.ref a1, .int 0, .ref (aX d + 0), .ref (aX d + 1), .ref (aX d + 2), .ref (aX d + 3), .ref (aX d + 4), .ref (aX d + 5), .ref (aX d + 6)]) 9 a0 (aX d) [some 2, some 3, some 4, none, none, some 7, some 8]) (aX d + 3) = 64) ∧ (aK (own (adf (adf (adz (adf (adz (adf (adn (adf (adn (adf (adz (adf (adz (adf (adz (d) 1 36) a0 [.null, .int 0, .ref (aX d + 0), .null, .null, .null, .null, .null, .null]) 1 36) a0 [.null, .int 0, .ref (aX d + 0), .ref (aX d + 1), .null, .null, .null, .null, .null]) 1 36) a0 [.null, .int 0, .ref (aX d + 0), .ref (aX d + 1), .ref (aX d + 2), .null, .null, .null, .null]) 2 64) a0 [.null, .int 0, .ref (aX d + 0), .ref (aX d + 1), .ref (aX d + 2), .ref (aX d + 3), .null, .null, .null]) 2 64) a0 [.null, .int 0, .ref (aX d + 0), .ref (aX d + 1), .ref (aX d + 2), .ref (aX d + 3), .ref (aX d + 4), .null, .null]) 1 6) a0 [.null, .int 0, .ref (aX d + 0), .ref (aX d + 1), .ref (aX d + 2), .ref (aX d + 3), .ref (aX d + 4), .ref (aX d + 5), .null]) 1 6) a0 [.null, .int 0, .ref (aX d + 0), .ref (aX d + 1), .ref (aX d + 2), .ref (aX d + 3), .ref (aX d + 4), .ref (aX d + 5), .ref (aX d + 6)]) a0 [.ref a1, .int 0, .ref (aX d + 0), .ref (aX d + 1), .ref (aX d + 2), .ref (aX d + 3), .ref (aX d + 4), .ref (aX d + 5), .ref (aX d + 6)]) 9 a0 (aX d) [some 2, some 3, some 4, none, none, some 7, some 8]) (aX d + 4) = (2, 2, 0) ∧ aN (own (adf (adf (adz (adf (adz (adf (adn (adf (adn (adf (adz (adf (adz (adf (adz (d) 1 36) a0 [.null, .int 0, .ref (aX d + 0), .null, .null, .null, .null, .null, .null]) 1 36) a0 [.null, .int 0, .ref (aX d + 0), .ref (aX d + 1), .null, .null, .null, .null, .null]) 1 36) a0 [.null, .int 0, .ref (aX d + 0), .ref (aX d + 1), .ref (aX d + 2), .null, .null, .null, .null]) 2 64) a0 [.null, .int 0, .ref (aX d + 0), .ref (aX d + 1), .ref (aX d + 2), .ref (aX d + 3), .null, .null, .null]) 2 64) a0 [.null, .int 0, .ref (aX d + 0), .ref (aX d + 1), .ref (aX d + 2), .ref (aX d + 3), .ref (aX d + 4), .null, .null]) 1 6) a0 [.null, .int 0, .ref (aX d + 0), .ref (aX d + 1), .ref (aX d + 2), .ref (aX d + 3), .ref (aX d + 4), .ref (aX d + 5), .null]) 1 6) a0 [.null, .int 0, .ref (aX d + 0), .ref (aX d + 1), .ref (aX d + 2), .ref (aX d + 3), .ref (aX d + 4), .ref (aX d + 5), .ref (aX d + 6)]) a0 [.ref a1, .int 0, .ref (aX d + 0), .ref (aX d + 1), .ref (aX d + 2), .ref (aX d + 3), .ref (aX d + 4), .ref (aX d + 5), .ref (aX d + 6)]) 9 a0 (aX d) [some 2, some 3, some 4, none, none, some 7, some 8]) (aX d + 4) = 64) := by
  obtain ⟨D, rfl⟩ : ∃ E, D = E + 1 := ⟨D - 1, by omega⟩
  have hd0 := hW
  have W : Adw a0 d d := Adw.of Adx.rf
  have za1 : a1 ≠ a0 := fun q => by rw [q, ha0] at ha1; cases ha1
  refine ex_in (kl := kl_107) (nL := 2) rfl (by decide +kernel) (Nat.le_of_ble_eq_true rfl) ?_
  show Ends (EX D) (u_at kl_107) (0, [some (.ref a0), some (.ref a1)], [], h) _
  have hX : aX d = aX d + 0 := rfl
  refine en_segs [(0, .aload_n 0, []), (1, .invokespecial 3, []), (4, .aload_n 0, []), (5, .bipush 36, [])] (by decide +kernel) (y := (7, [some (.ref a0), some (.ref a1)], [.int 36, .ref a0], h)) rfl ?_
  refine en_nzA (N := 36) (B := aX d) (j := 0) (by decide +kernel : u_at kl_107 7 = some (.newarray .int, [1])) hW (by decide +kernel) (by decide +kernel) rfl hX hf ha0 (fun h e0 he0 hW x k0 n0 hX hf ha0 => ?_)
  have W := W.trans (Adw.of x)
  refine en_putA (fs' := [.null, .int 0, .ref (aX d + 0), .null, .null, .null, .null, .null, .null]) (by decide +kernel : u_at kl_107 9 = some (.putfield 9, [9, 2, 3])) hW ha0 hf (Nat.le_of_ble_eq_true rfl) rfl rfl hX (fun h e1 he1 hW kq nq hX hf ha0 y => ?_)
  have W := W.trans y
  have k0 := (kq _).trans k0
  have n0 := (congrFun nq _).trans n0
  refine en_segs [(12, .aload_n 0, []), (13, .bipush 36, [])] (by decide +kernel) (y := (15, [some (.ref a0), some (.ref a1)], [.int 36, .ref a0], h)) rfl ?_
  refine en_nzA (N := 36) (B := aX d) (j := 1) (by decide +kernel : u_at kl_107 15 = some (.newarray .int, [1])) hW (by decide +kernel) (by decide +kernel) rfl hX hf ha0 (fun h e2 he2 hW x k1 n1 hX hf ha0 => ?_)
  have n0 := (x.2.2.2.2.2.2.2 _ _ k0).trans n0
  have k0 := x.z k0
  have W := W.trans (Adw.of x)
  refine en_putA (fs' := [.null, .int 0, .ref (aX d + 0), .ref (aX d + 1), .null, .null, .null, .null, .null]) (by decide +kernel : u_at kl_107 17 = some (.putfield 15, [9, 3, 3])) hW ha0 hf (Nat.le_of_ble_eq_true rfl) rfl rfl hX (fun h e3 he3 hW kq nq hX hf ha0 y => ?_)
  have W := W.trans y
  have k0 := (kq _).trans k0
  have n0 := (congrFun nq _).trans n0
  have k1 := (kq _).trans k1
  have n1 := (congrFun nq _).trans n1
  refine en_segs [(20, .aload_n 0, []), (21, .bipush 36, [])] (by decide +kernel) (y := (23, [some (.ref a0), some (.ref a1)], [.int 36, .ref a0], h)) rfl ?_
  refine en_nzA (N := 36) (B := aX d) (j := 2) (by decide +kernel : u_at kl_107 23 = some (.newarray .int, [1])) hW (by decide +kernel) (by decide +kernel) rfl hX hf ha0 (fun h e4 he4 hW x k2 n2 hX hf ha0 => ?_)
  have n0 := (x.2.2.2.2.2.2.2 _ _ k0).trans n0
  have k0 := x.z k0
  have n1 := (x.2.2.2.2.2.2.2 _ _ k1).trans n1
  have k1 := x.z k1
  have W := W.trans (Adw.of x)
  refine en_putA (fs' := [.null, .int 0, .ref (aX d + 0), .ref (aX d + 1), .ref (aX d + 2), .null, .null, .null, .null]) (by decide +kernel : u_at kl_107 25 = some (.putfield 18, [9, 4, 3])) hW ha0 hf (Nat.le_of_ble_eq_true rfl) rfl rfl hX (fun h e5 he5 hW kq nq hX hf ha0 y => ?_)
  have W := W.trans y
  have k0 := (kq _).trans k0
  have n0 := (congrFun nq _).trans n0
  have k1 := (kq _).trans k1
  have n1 := (congrFun nq _).trans n1
  have k2 := (kq _).trans k2
  have n2 := (congrFun nq _).trans n2
  refine en_segs [(28, .aload_n 0, []), (29, .bipush 64, [])] (by decide +kernel) (y := (31, [some (.ref a0), some (.ref a1)], [.int 64, .ref a0], h)) rfl ?_
  refine en_nfL (N := 64) (B := aX d) (j := 3) (by decide +kernel : u_at kl_107 31 = some (.newarray .long, [2])) hW (by decide +kernel) (by decide +kernel) hX hf ha0 (fun h e6 he6 hW x k3 n3 hX hf ha0 => ?_)
  have hW : HW (mkw c0 c1 c2 c3 c4 c5 c6 c7 c8 c9 c10 c11 c12 (sB c13 0 (aX d + 3) (fun _ => 0))) e6 h := hW
  have n0 := (x.2.2.2.2.2.2.2 _ _ k0).trans n0
  have k0 := x.z k0
  have n1 := (x.2.2.2.2.2.2.2 _ _ k1).trans n1
  have k1 := x.z k1
  have n2 := (x.2.2.2.2.2.2.2 _ _ k2).trans n2
  have k2 := x.z k2
  have W := W.trans (Adw.of x)
  refine en_putA (fs' := [.null, .int 0, .ref (aX d + 0), .ref (aX d + 1), .ref (aX d + 2), .ref (aX d + 3), .null, .null, .null]) (by decide +kernel : u_at kl_107 33 = some (.putfield 21, [9, 5, 3])) hW ha0 hf (Nat.le_of_ble_eq_true rfl) rfl rfl hX (fun h e7 he7 hW kq nq hX hf ha0 y => ?_)
  have W := W.trans y
  have k0 := (kq _).trans k0
  have n0 := (congrFun nq _).trans n0
  have k1 := (kq _).trans k1
  have n1 := (congrFun nq _).trans n1
  have k2 := (kq _).trans k2
  have n2 := (congrFun nq _).trans n2
  have k3 := (kq _).trans k3
  have n3 := (congrFun nq _).trans n3
  refine en_segs [(36, .aload_n 0, []), (37, .bipush 64, [])] (by decide +kernel) (y := (39, [some (.ref a0), some (.ref a1)], [.int 64, .ref a0], h)) rfl ?_
  refine en_nfL (N := 64) (B := aX d) (j := 4) (by decide +kernel : u_at kl_107 39 = some (.newarray .long, [2])) hW (by decide +kernel) (by decide +kernel) hX hf ha0 (fun h e8 he8 hW x k4 n4 hX hf ha0 => ?_)
  have hW : HW (mkw c0 c1 c2 c3 c4 c5 c6 c7 c8 c9 c10 c11 c12 (sB (sB c13 0 (aX d + 3) (fun _ => 0)) 0 (aX d + 4) (fun _ => 0))) e8 h := hW
  have n0 := (x.2.2.2.2.2.2.2 _ _ k0).trans n0
  have k0 := x.z k0
  have n1 := (x.2.2.2.2.2.2.2 _ _ k1).trans n1
  have k1 := x.z k1
  have n2 := (x.2.2.2.2.2.2.2 _ _ k2).trans n2
  have k2 := x.z k2
  have n3 := (x.2.2.2.1 _ _ k3).trans n3
  have k3 := x.f k3
  have W := W.trans (Adw.of x)
  refine en_putA (fs' := [.null, .int 0, .ref (aX d + 0), .ref (aX d + 1), .ref (aX d + 2), .ref (aX d + 3), .ref (aX d + 4), .null, .null]) (by decide +kernel : u_at kl_107 41 = some (.putfield 25, [9, 6, 3])) hW ha0 hf (Nat.le_of_ble_eq_true rfl) rfl rfl hX (fun h e9 he9 hW kq nq hX hf ha0 y => ?_)
  have W := W.trans y
  have k0 := (kq _).trans k0
  have n0 := (congrFun nq _).trans n0
  have k1 := (kq _).trans k1
  have n1 := (congrFun nq _).trans n1
  have k2 := (kq _).trans k2
  have n2 := (congrFun nq _).trans n2
  have k3 := (kq _).trans k3
  have n3 := (congrFun nq _).trans n3
  have k4 := (kq _).trans k4
  have n4 := (congrFun nq _).trans n4
  refine en_segs [(44, .aload_n 0, []), (45, .bipush 6, [])] (by decide +kernel) (y := (47, [some (.ref a0), some (.ref a1)], [.int 6, .ref a0], h)) rfl ?_
  refine en_nzA (N := 6) (B := aX d) (j := 5) (by decide +kernel : u_at kl_107 47 = some (.newarray .int, [1])) hW (by decide +kernel) (by decide +kernel) rfl hX hf ha0 (fun h e10 he10 hW x k5 n5 hX hf ha0 => ?_)
  have n0 := (x.2.2.2.2.2.2.2 _ _ k0).trans n0
  have k0 := x.z k0
  have n1 := (x.2.2.2.2.2.2.2 _ _ k1).trans n1
  have k1 := x.z k1
  have n2 := (x.2.2.2.2.2.2.2 _ _ k2).trans n2
  have k2 := x.z k2
  have n3 := (x.2.2.2.1 _ _ k3).trans n3
  have k3 := x.f k3
  have n4 := (x.2.2.2.1 _ _ k4).trans n4
  have k4 := x.f k4
  have W := W.trans (Adw.of x)
  refine en_putA (fs' := [.null, .int 0, .ref (aX d + 0), .ref (aX d + 1), .ref (aX d + 2), .ref (aX d + 3), .ref (aX d + 4), .ref (aX d + 5), .null]) (by decide +kernel : u_at kl_107 49 = some (.putfield 28, [9, 7, 3])) hW ha0 hf (Nat.le_of_ble_eq_true rfl) rfl rfl hX (fun h e11 he11 hW kq nq hX hf ha0 y => ?_)
  have W := W.trans y
  have k0 := (kq _).trans k0
  have n0 := (congrFun nq _).trans n0
  have k1 := (kq _).trans k1
  have n1 := (congrFun nq _).trans n1
  have k2 := (kq _).trans k2
  have n2 := (congrFun nq _).trans n2
  have k3 := (kq _).trans k3
  have n3 := (congrFun nq _).trans n3
  have k4 := (kq _).trans k4
  have n4 := (congrFun nq _).trans n4
  have k5 := (kq _).trans k5
  have n5 := (congrFun nq _).trans n5
  refine en_segs [(52, .aload_n 0, []), (53, .bipush 6, [])] (by decide +kernel) (y := (55, [some (.ref a0), some (.ref a1)], [.int 6, .ref a0], h)) rfl ?_
  refine en_nzA (N := 6) (B := aX d) (j := 6) (by decide +kernel : u_at kl_107 55 = some (.newarray .int, [1])) hW (by decide +kernel) (by decide +kernel) rfl hX hf ha0 (fun h e12 he12 hW x k6 n6 hX hf ha0 => ?_)
  have n0 := (x.2.2.2.2.2.2.2 _ _ k0).trans n0
  have k0 := x.z k0
  have n1 := (x.2.2.2.2.2.2.2 _ _ k1).trans n1
  have k1 := x.z k1
  have n2 := (x.2.2.2.2.2.2.2 _ _ k2).trans n2
  have k2 := x.z k2
  have n3 := (x.2.2.2.1 _ _ k3).trans n3
  have k3 := x.f k3
  have n4 := (x.2.2.2.1 _ _ k4).trans n4
  have k4 := x.f k4
  have n5 := (x.2.2.2.2.2.2.2 _ _ k5).trans n5
  have k5 := x.z k5
  have W := W.trans (Adw.of x)
  refine en_putA (fs' := [.null, .int 0, .ref (aX d + 0), .ref (aX d + 1), .ref (aX d + 2), .ref (aX d + 3), .ref (aX d + 4), .ref (aX d + 5), .ref (aX d + 6)]) (by decide +kernel : u_at kl_107 57 = some (.putfield 31, [9, 8, 3])) hW ha0 hf (Nat.le_of_ble_eq_true rfl) rfl rfl hX (fun h e13 he13 hW kq nq hX hf ha0 y => ?_)
  have W := W.trans y
  have k0 := (kq _).trans k0
  have n0 := (congrFun nq _).trans n0
  have k1 := (kq _).trans k1
  have n1 := (congrFun nq _).trans n1
  have k2 := (kq _).trans k2
  have n2 := (congrFun nq _).trans n2
  have k3 := (kq _).trans k3
  have n3 := (congrFun nq _).trans n3
  have k4 := (kq _).trans k4
  have n4 := (congrFun nq _).trans n4
  have k5 := (kq _).trans k5
  have n5 := (congrFun nq _).trans n5
  have k6 := (kq _).trans k6
  have n6 := (congrFun nq _).trans n6
  refine en_segs [(60, .aload_n 0, []), (61, .aload_n 1, [])] (by decide +kernel) (y := (62, [some (.ref a0), some (.ref a1)], [.ref a1, .ref a0], h)) rfl ?_
  refine en_putA (fs' := [.ref a1, .int 0, .ref (aX d + 0), .ref (aX d + 1), .ref (aX d + 2), .ref (aX d + 3), .ref (aX d + 4), .ref (aX d + 5), .ref (aX d + 6)]) (by decide +kernel : u_at kl_107 62 = some (.putfield 34, [9, 0, 3])) hW ha0 hf (Nat.le_of_ble_eq_true rfl) rfl rfl hX (fun h e14 he14 hW kq nq hX hf ha0 y => ?_)
  have W := W.trans y
  have k0 := (kq _).trans k0
  have n0 := (congrFun nq _).trans n0
  have k1 := (kq _).trans k1
  have n1 := (congrFun nq _).trans n1
  have k2 := (kq _).trans k2
  have n2 := (congrFun nq _).trans n2
  have k3 := (kq _).trans k3
  have n3 := (congrFun nq _).trans n3
  have k4 := (kq _).trans k4
  have n4 := (congrFun nq _).trans n4
  have k5 := (kq _).trans k5
  have n5 := (congrFun nq _).trans n5
  have k6 := (kq _).trans k6
  have n6 := (congrFun nq _).trans n6
  have WO := own_w (c := 9) (X := aX d) (l := [some 2, some 3, some 4, none, none, some 7, some 8]) hd0 (Nat.le_refl _) W
  have fa1 := (WO.2.1 a1 za1 (by rw [ha1]; exact fun q => by cases q)).trans ha1
  have hO : HW (mkw c0 c1 c2 c3 c4 c5 c6 c7 c8 (sR (sR (sR (zat c9 a0) 5 a0 (aX d + 3)) 6 a0 (aX d + 4)) 0 a0 a1) c10 c11 c12 (sB (sB c13 0 (aX d + 3) (fun _ => 0)) 0 (aX d + 4) (fun _ => 0))) (own e14 9 a0 (aX d) [some 2, some 3, some 4, none, none, some 7, some 8]) h := by
    refine hw_own2 (c := 9) (a := a0) (X := aX d) (l := [some 2, some 3, some 4, none, none, some 7, some 8]) (x := (sR (sR (sR (zat c9 a0) 5 a0 (aX d + 3)) 6 a0 (aX d + 4)) 0 a0 a1)) hW (by decide) ha0 (by decide +kernel) (fun i k e => ?_) (fun k b g => ?_) (fun k => ?_) ?_ (fun k hk h3 => ?_)
    · rcases i with _ | _ | _ | _ | _ | _ | _ | i
      · cases e; exact ⟨k0, n0⟩
      · cases e; exact ⟨k1, n1⟩
      · cases e; exact ⟨k2, n2⟩
      · cases e
      · cases e
      · cases e; exact ⟨k5, n5⟩
      · cases e; exact ⟨k6, n6⟩
      · cases e
    · show cI _ k b = cI c9 k b ∧ cJ _ k b = cJ c9 k b ∧ cR _ k b = cR c9 k b ∧ cA _ k b = cA c9 k b ∧ cB _ k b = cB c9 k b ∧ cQ _ k b = cQ c9 k b
      simp [sI, sJ, sR, zat, cI, cJ, cR, cA, cB, cQ, up2, g]
    · simp [sI, sJ, sR, zat, cI, cJ, cR, cA, cB, cQ, up2]
    · rw [hf]
      show _ = ([.ref (cR (sR (sR (sR (zat c9 a0) 5 a0 (aX d + 3)) 6 a0 (aX d + 4)) 0 a0 a1) 0 a0), .int (cI (sR (sR (sR (zat c9 a0) 5 a0 (aX d + 3)) 6 a0 (aX d + 4)) 0 a0 a1) 1 a0), .ref (if a0 = a0 then aX d + List.idxOf (some 2) [some 2, some 3, some 4, none, none, some 7, some 8] else aP e14 9 2 a0), .ref (if a0 = a0 then aX d + List.idxOf (some 3) [some 2, some 3, some 4, none, none, some 7, some 8] else aP e14 9 3 a0), .ref (if a0 = a0 then aX d + List.idxOf (some 4) [some 2, some 3, some 4, none, none, some 7, some 8] else aP e14 9 4 a0), .ref (cR (sR (sR (sR (zat c9 a0) 5 a0 (aX d + 3)) 6 a0 (aX d + 4)) 0 a0 a1) 5 a0), .ref (cR (sR (sR (sR (zat c9 a0) 5 a0 (aX d + 3)) 6 a0 (aX d + 4)) 0 a0 a1) 6 a0), .ref (if a0 = a0 then aX d + List.idxOf (some 7) [some 2, some 3, some 4, none, none, some 7, some 8] else aP e14 9 7 a0), .ref (if a0 = a0 then aX d + List.idxOf (some 8) [some 2, some 3, some 4, none, none, some 7, some 8] else aP e14 9 8 a0)] : List Value)
      simp [sI, sJ, sR, zat, cI, cJ, cR, cA, cB, cQ, up2, List.idxOf, List.findIdx, List.findIdx.go]
    · rcases k with _ | _ | _ | _ | _ | _ | _ | _ | _ | k
      · show aK _ (cR (sR (sR (sR (zat c9 a0) 5 a0 (aX d + 3)) 6 a0 (aX d + 4)) 0 a0 a1) 0 a0) = _
        have : cR (sR (sR (sR (zat c9 a0) 5 a0 (aX d + 3)) 6 a0 (aX d + 4)) 0 a0 a1) 0 a0 = a1 := by simp [sI, sJ, sR, zat, cI, cJ, cR, cA, cB, cQ, up2]
        rw [this]; exact fa1
      · exact True.intro
      · exact absurd rfl h3
      · exact absurd rfl h3
      · exact absurd rfl h3
      · show aK _ (cR (sR (sR (sR (zat c9 a0) 5 a0 (aX d + 3)) 6 a0 (aX d + 4)) 0 a0 a1) 5 a0) = _
        have : cR (sR (sR (sR (zat c9 a0) 5 a0 (aX d + 3)) 6 a0 (aX d + 4)) 0 a0 a1) 5 a0 = (aX d + 3) := by simp [sI, sJ, sR, zat, cI, cJ, cR, cA, cB, cQ, up2]
        rw [this]; exact own_f k3 ha0 rfl
      · show aK _ (cR (sR (sR (sR (zat c9 a0) 5 a0 (aX d + 3)) 6 a0 (aX d + 4)) 0 a0 a1) 6 a0) = _
        have : cR (sR (sR (sR (zat c9 a0) 5 a0 (aX d + 3)) 6 a0 (aX d + 4)) 0 a0 a1) 6 a0 = (aX d + 4) := by simp [sI, sJ, sR, zat, cI, cJ, cR, cA, cB, cQ, up2]
        rw [this]; exact own_f k4 ha0 rfl
      · exact absurd rfl h3
      · exact absurd rfl h3
      · exact absurd hk (Nat.not_lt.mpr (Nat.le_add_left _ _))
  exact en_ret (by decide +kernel : u_at kl_107 65 = some (.return_, [])) rfl (by subst he14 he13 he12 he11 he10 he9 he8 he7 he6 he5 he4 he3 he2 he1 he0; exact ⟨rfl, hO, WO, ⟨own_f k3 ha0 rfl, n3⟩, ⟨own_f k4 ha0 rfl, n4⟩⟩)
