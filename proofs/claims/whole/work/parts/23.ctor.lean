set_option maxRecDepth 100000 in
set_option maxHeartbeats 4000000 in
theorem e_0 {D : Nat} {c0 c1 c2 c3 c4 c5 c6 c7 c8 c9 c10 c11 c12 c13 : Cl} {d : Ad} {h : UH} {a0 a1 : Nat} (hD : 1 ≤ D) (hW : HW (mkw c0 c1 c2 c3 c4 c5 c6 c7 c8 c9 c10 c11 c12 c13) d h) (ha0 : aK d a0 = (3, 0, 0)) (hf : aF d a0 = [.null, .int 0, .int 0, .int 0, .int 0, .int 0, .int 0, .int 0, .int 0, .long 0, .int 0, .int 0]) (ha1 : aK d a1 = (0, 6, 0)) : ∃ q, EX D 0 [.ref a0, .ref a1] h q ∧ q.1 = none ∧ HW (mkw (sR (zat c0 a0) 0 a0 a1) c1 c2 c3 c4 c5 c6 c7 c8 c9 c10 c11 c12 c13) (own (adf (d) a0 [.ref a1, .int 0, .int 0, .int 0, .int 0, .int 0, .int 0, .int 0, .int 0, .long 0, .int 0, .int 0]) 0 a0 (aX d) []) q.2 ∧ Adw a0 d (own (adf (d) a0 [.ref a1, .int 0, .int 0, .int 0, .int 0, .int 0, .int 0, .int 0, .int 0, .long 0, .int 0, .int 0]) 0 a0 (aX d) []) := by
  obtain ⟨D, rfl⟩ : ∃ E, D = E + 1 := ⟨D - 1, by omega⟩
  have hd0 := hW
  have W : Adw a0 d d := Adw.of Adx.rf
  have za1 : a1 ≠ a0 := fun q => by rw [q, ha0] at ha1; cases ha1
  refine ex_in (kl := kl_0) (nL := 2) rfl (by decide +kernel) (Nat.le_of_ble_eq_true rfl) ?_
  show Ends (EX D) (u_at kl_0) (0, [some (.ref a0), some (.ref a1)], [], h) _
  have hX : aX d = aX d + 0 := rfl
  refine en_segs [(0, .aload_n 0, []), (1, .invokespecial 3, []), (4, .aload_n 0, []), (5, .aload_n 1, [])] (by decide +kernel) (y := (6, [some (.ref a0), some (.ref a1)], [.ref a1, .ref a0], h)) rfl ?_
  refine en_putA (fs' := [.ref a1, .int 0, .int 0, .int 0, .int 0, .int 0, .int 0, .int 0, .int 0, .long 0, .int 0, .int 0]) (by decide +kernel : u_at kl_0 6 = some (.putfield 9, [0, 0, 3])) hW ha0 hf (by decide) rfl rfl hX (fun h e0 he0 hW kq nq hX hf ha0 y => ?_)
  have W := W.trans y
  have WO := own_w (c := 0) (X := aX d) (l := []) hd0 (Nat.le_refl _) W
  have fa1 := (WO.2.1 a1 za1 (by rw [ha1]; exact fun q => by cases q)).trans ha1
  have hO : HW (mkw (sR (zat c0 a0) 0 a0 a1) c1 c2 c3 c4 c5 c6 c7 c8 c9 c10 c11 c12 c13) (own e0 0 a0 (aX d) []) h := by
    refine hw_own2 (c := 0) (a := a0) (X := aX d) (l := []) (x := (sR (zat c0 a0) 0 a0 a1)) hW (by decide) ha0 (by decide +kernel) (fun i k e => ?_) (fun k b g => ?_) (fun k => ?_) ?_ (fun k hk h3 => ?_)
    · cases e
    · show cI _ k b = cI c0 k b ∧ cJ _ k b = cJ c0 k b ∧ cR _ k b = cR c0 k b ∧ cA _ k b = cA c0 k b ∧ cB _ k b = cB c0 k b ∧ cQ _ k b = cQ c0 k b
      simp [sI, sJ, sR, zat, cI, cJ, cR, cA, cB, cQ, up2, g]
    · simp [sI, sJ, sR, zat, cI, cJ, cR, cA, cB, cQ, up2]
    · rw [hf]
      show _ = ([.ref (cR (sR (zat c0 a0) 0 a0 a1) 0 a0), .int (cI (sR (zat c0 a0) 0 a0 a1) 1 a0), .int (cI (sR (zat c0 a0) 0 a0 a1) 2 a0), .int (cI (sR (zat c0 a0) 0 a0 a1) 3 a0), .int (cI (sR (zat c0 a0) 0 a0 a1) 4 a0), .int (cI (sR (zat c0 a0) 0 a0 a1) 5 a0), .int (cI (sR (zat c0 a0) 0 a0 a1) 6 a0), .int (cI (sR (zat c0 a0) 0 a0 a1) 7 a0), .int (cI (sR (zat c0 a0) 0 a0 a1) 8 a0), .long (cJ (sR (zat c0 a0) 0 a0 a1) 9 a0), .int (cI (sR (zat c0 a0) 0 a0 a1) 10 a0), .int (cI (sR (zat c0 a0) 0 a0 a1) 11 a0)] : List Value)
      simp [sI, sJ, sR, zat, cI, cJ, cR, cA, cB, cQ, up2, List.idxOf, List.findIdx, List.findIdx.go]
    · rcases k with _ | _ | _ | _ | _ | _ | _ | _ | _ | _ | _ | _ | k
      · show aK _ (cR (sR (zat c0 a0) 0 a0 a1) 0 a0) = _
        have : cR (sR (zat c0 a0) 0 a0 a1) 0 a0 = a1 := by simp [sI, sJ, sR, zat, cI, cJ, cR, cA, cB, cQ, up2]
        rw [this]; exact fa1
      · exact True.intro
      · exact True.intro
      · exact True.intro
      · exact True.intro
      · exact True.intro
      · exact True.intro
      · exact True.intro
      · exact True.intro
      · exact True.intro
      · exact True.intro
      · exact True.intro
      · exact absurd hk (Nat.not_lt.mpr (Nat.le_add_left _ _))
  exact en_ret (by decide +kernel : u_at kl_0 9 = some (.return_, [])) rfl (by subst he0; exact ⟨rfl, hO, WO⟩)
set_option maxRecDepth 100000 in
set_option maxHeartbeats 4000000 in
theorem e_36 {D : Nat} {c0 c1 c2 c3 c4 c5 c6 c7 c8 c9 c10 c11 c12 c13 : Cl} {d : Ad} {h : UH} {a0 a1 a2 a3 : Nat} (hD : 1 ≤ D) (hW : HW (mkw c0 c1 c2 c3 c4 c5 c6 c7 c8 c9 c10 c11 c12 c13) d h) (ha0 : aK d a0 = (3, 4, 0)) (hf : aF d a0 = [.null, .null, .null, .null]) (ha1 : aK d a1 = (2, 1, 0)) (ha2 : aK d a2 = (2, 1, 0)) (ha3 : aK d a3 = (2, 1, 0)) : ∃ q, EX D 36 [.ref a0, .ref a1, .ref a2, .ref a3] h q ∧ q.1 = none ∧ HW (mkw c0 c1 c2 c3 (sR (sR (sR (zat c4 a0) 0 a0 a1) 1 a0 a2) 2 a0 a3) c5 c6 c7 c8 c9 c10 c11 c12 c13) (own (adf (adf (adf (adf (adz (d) 2 60) a0 [.null, .null, .null, .ref (aX d + 0)]) a0 [.ref a1, .null, .null, .ref (aX d + 0)]) a0 [.ref a1, .ref a2, .null, .ref (aX d + 0)]) a0 [.ref a1, .ref a2, .ref a3, .ref (aX d + 0)]) 4 a0 (aX d) [some 3]) q.2 ∧ Adw a0 d (own (adf (adf (adf (adf (adz (d) 2 60) a0 [.null, .null, .null, .ref (aX d + 0)]) a0 [.ref a1, .null, .null, .ref (aX d + 0)]) a0 [.ref a1, .ref a2, .null, .ref (aX d + 0)]) a0 [.ref a1, .ref a2, .ref a3, .ref (aX d + 0)]) 4 a0 (aX d) [some 3]) := by
  obtain ⟨D, rfl⟩ : ∃ E, D = E + 1 := ⟨D - 1, by omega⟩
  have hd0 := hW
  have W : Adw a0 d d := Adw.of Adx.rf
  have za1 : a1 ≠ a0 := fun q => by rw [q, ha0] at ha1; cases ha1
  have za2 : a2 ≠ a0 := fun q => by rw [q, ha0] at ha2; cases ha2
  have za3 : a3 ≠ a0 := fun q => by rw [q, ha0] at ha3; cases ha3
  refine ex_in (kl := kl_36) (nL := 4) rfl (by decide +kernel) (Nat.le_of_ble_eq_true rfl) ?_
  show Ends (EX D) (u_at kl_36) (0, [some (.ref a0), some (.ref a1), some (.ref a2), some (.ref a3)], [], h) _
  have hX : aX d = aX d + 0 := rfl
  refine en_segs [(0, .aload_n 0, []), (1, .invokespecial 3, []), (4, .aload_n 0, []), (5, .bipush 60, [])] (by decide +kernel) (y := (7, [some (.ref a0), some (.ref a1), some (.ref a2), some (.ref a3)], [.int 60, .ref a0], h)) rfl ?_
  refine en_nzA (N := 60) (B := aX d) (j := 0) (by decide +kernel : u_at kl_36 7 = some (.newarray .long, [2])) hW (by decide +kernel) (by decide +kernel) rfl hX hf ha0 (fun h e0 he0 hW x k0 n0 hX hf ha0 => ?_)
  have W := W.trans (Adw.of x)
  refine en_putA (fs' := [.null, .null, .null, .ref (aX d + 0)]) (by decide +kernel : u_at kl_36 9 = some (.putfield 11, [4, 3, 3])) hW ha0 hf (by decide) rfl rfl hX (fun h e1 he1 hW kq nq hX hf ha0 y => ?_)
  have W := W.trans y
  have k0 := (kq _).trans k0
  have n0 := (congrFun nq _).trans n0
  refine en_segs [(12, .aload_n 0, []), (13, .aload_n 1, [])] (by decide +kernel) (y := (14, [some (.ref a0), some (.ref a1), some (.ref a2), some (.ref a3)], [.ref a1, .ref a0], h)) rfl ?_
  refine en_putA (fs' := [.ref a1, .null, .null, .ref (aX d + 0)]) (by decide +kernel : u_at kl_36 14 = some (.putfield 17, [4, 0, 3])) hW ha0 hf (by decide) rfl rfl hX (fun h e2 he2 hW kq nq hX hf ha0 y => ?_)
  have W := W.trans y
  have k0 := (kq _).trans k0
  have n0 := (congrFun nq _).trans n0
  refine en_segs [(17, .aload_n 0, []), (18, .aload_n 2, [])] (by decide +kernel) (y := (19, [some (.ref a0), some (.ref a1), some (.ref a2), some (.ref a3)], [.ref a2, .ref a0], h)) rfl ?_
  refine en_putA (fs' := [.ref a1, .ref a2, .null, .ref (aX d + 0)]) (by decide +kernel : u_at kl_36 19 = some (.putfield 21, [4, 1, 3])) hW ha0 hf (by decide) rfl rfl hX (fun h e3 he3 hW kq nq hX hf ha0 y => ?_)
  have W := W.trans y
  have k0 := (kq _).trans k0
  have n0 := (congrFun nq _).trans n0
  refine en_segs [(22, .aload_n 0, []), (23, .aload_n 3, [])] (by decide +kernel) (y := (24, [some (.ref a0), some (.ref a1), some (.ref a2), some (.ref a3)], [.ref a3, .ref a0], h)) rfl ?_
  refine en_putA (fs' := [.ref a1, .ref a2, .ref a3, .ref (aX d + 0)]) (by decide +kernel : u_at kl_36 24 = some (.putfield 24, [4, 2, 3])) hW ha0 hf (by decide) rfl rfl hX (fun h e4 he4 hW kq nq hX hf ha0 y => ?_)
  have W := W.trans y
  have k0 := (kq _).trans k0
  have n0 := (congrFun nq _).trans n0
  have WO := own_w (c := 4) (X := aX d) (l := [some 3]) hd0 (Nat.le_refl _) W
  have fa1 := (WO.2.1 a1 za1 (by rw [ha1]; exact fun q => by cases q)).trans ha1
  have fa2 := (WO.2.1 a2 za2 (by rw [ha2]; exact fun q => by cases q)).trans ha2
  have fa3 := (WO.2.1 a3 za3 (by rw [ha3]; exact fun q => by cases q)).trans ha3
  have hO : HW (mkw c0 c1 c2 c3 (sR (sR (sR (zat c4 a0) 0 a0 a1) 1 a0 a2) 2 a0 a3) c5 c6 c7 c8 c9 c10 c11 c12 c13) (own e4 4 a0 (aX d) [some 3]) h := by
    refine hw_own2 (c := 4) (a := a0) (X := aX d) (l := [some 3]) (x := (sR (sR (sR (zat c4 a0) 0 a0 a1) 1 a0 a2) 2 a0 a3)) hW (by decide) ha0 (by decide +kernel) (fun i k e => ?_) (fun k b g => ?_) (fun k => ?_) ?_ (fun k hk h3 => ?_)
    · rcases i with _ | i
      · cases e; exact ⟨k0, n0⟩
      · cases e
    · show cI _ k b = cI c4 k b ∧ cJ _ k b = cJ c4 k b ∧ cR _ k b = cR c4 k b ∧ cA _ k b = cA c4 k b ∧ cB _ k b = cB c4 k b ∧ cQ _ k b = cQ c4 k b
      simp [sI, sJ, sR, zat, cI, cJ, cR, cA, cB, cQ, up2, g]
    · simp [sI, sJ, sR, zat, cI, cJ, cR, cA, cB, cQ, up2]
    · rw [hf]
      show _ = ([.ref (cR (sR (sR (sR (zat c4 a0) 0 a0 a1) 1 a0 a2) 2 a0 a3) 0 a0), .ref (cR (sR (sR (sR (zat c4 a0) 0 a0 a1) 1 a0 a2) 2 a0 a3) 1 a0), .ref (cR (sR (sR (sR (zat c4 a0) 0 a0 a1) 1 a0 a2) 2 a0 a3) 2 a0), .ref (if a0 = a0 then aX d + List.idxOf (some 3) [some 3] else aP e4 4 3 a0)] : List Value)
      simp [sI, sJ, sR, zat, cI, cJ, cR, cA, cB, cQ, up2, List.idxOf, List.findIdx, List.findIdx.go]
    · rcases k with _ | _ | _ | _ | k
      · show aK _ (cR (sR (sR (sR (zat c4 a0) 0 a0 a1) 1 a0 a2) 2 a0 a3) 0 a0) = _
        have : cR (sR (sR (sR (zat c4 a0) 0 a0 a1) 1 a0 a2) 2 a0 a3) 0 a0 = a1 := by simp [sI, sJ, sR, zat, cI, cJ, cR, cA, cB, cQ, up2]
        rw [this]; exact fa1
      · show aK _ (cR (sR (sR (sR (zat c4 a0) 0 a0 a1) 1 a0 a2) 2 a0 a3) 1 a0) = _
        have : cR (sR (sR (sR (zat c4 a0) 0 a0 a1) 1 a0 a2) 2 a0 a3) 1 a0 = a2 := by simp [sI, sJ, sR, zat, cI, cJ, cR, cA, cB, cQ, up2]
        rw [this]; exact fa2
      · show aK _ (cR (sR (sR (sR (zat c4 a0) 0 a0 a1) 1 a0 a2) 2 a0 a3) 2 a0) = _
        have : cR (sR (sR (sR (zat c4 a0) 0 a0 a1) 1 a0 a2) 2 a0 a3) 2 a0 = a3 := by simp [sI, sJ, sR, zat, cI, cJ, cR, cA, cB, cQ, up2]
        rw [this]; exact fa3
      · exact absurd rfl h3
      · exact absurd hk (Nat.not_lt.mpr (Nat.le_add_left _ _))
  exact en_ret (by decide +kernel : u_at kl_36 27 = some (.return_, [])) rfl (by subst he4 he3 he2 he1 he0; exact ⟨rfl, hO, WO⟩)
