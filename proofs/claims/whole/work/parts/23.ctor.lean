set_option maxRecDepth 100000 in
set_option maxHeartbeats 4000000 in
theorem e_0 {D : Nat} {c0 c1 c2 c3 c4 c5 c6 c7 c8 c9 c10 c11 c12 c13 : Cl} {d : Ad} {h : UH} {a0 a1 : Nat} (hD : 1 ≤ D) (hW : HW (mkw c0 c1 c2 c3 c4 c5 c6 c7 c8 c9 c10 c11 c12 c13) d h) (ha0 : aK d a0 = (3, 0, 0)) (hf : aF d a0 = [.null, .int 0, .int 0, .int 0, .int 0, .int 0, .int 0, .int 0, .int 0, .long 0, .int 0, .int 0]) (ha1 : aK d a1 = (0, 6, 0)) : ∃ q, EX D 0 [.ref a0, .ref a1] h q ∧ q.1 = none ∧ HW (mkw (sR (zat c0 a0) 0 a0 a1) c1 c2 c3 c4 c5 c6 c7 c8 c9 c10 c11 c12 c13) (own (adf (d) a0 [.ref a1, .int 0, .int 0, .int 0, .int 0, .int 0, .int 0, .int 0, .int 0, .long 0, .int 0, .int 0]) 0 a0 (aX d) []) q.2 ∧ Adw a0 d (own (adf (d) a0 [.ref a1, .int 0, .int 0, .int 0, .int 0, .int 0, .int 0, .int 0, .int 0, .long 0, .int 0, .int 0]) 0 a0 (aX d) []) := by
  obtain ⟨D, rfl⟩ : ∃ E, D = E + 1 := ⟨D - 1, by omega⟩
  have hd0 := hW
  have W : Adw a0 d d := Adw.of Adx.rf
  have za1 : a1 ≠ a0 := fun q => by rw [q, ha0] at ha1; cases ha1
  refine ex_in (kl := kl_0) (nL := 2) rfl (by decide +kernel) (Nat.le_of_ble_eq_true rfl) ?_
  show Ends (EX D) (u_at kl_0) (0, [some (.ref a0), some (.ref a1)], [], h) _
  refine en_segs [(0, .aload_n 0, []), (1, .invokespecial 3, []), (4, .aload_n 0, []), (5, .aload_n 1, [])] (by decide +kernel) (y := (6, [some (.ref a0), some (.ref a1)], [.ref a1, .ref a0], h)) rfl ?_
  refine en_putr (v := .ref a1) (by decide +kernel : u_at kl_0 6 = some (.putfield 9, [0, 0, 3])) hW ha0 (by rw [hf]; decide) rfl (fun h hW => ?_)
  rw [hf] at hW
  have W := W.trans (adf_w (d) a0 [.ref a1, .int 0, .int 0, .int 0, .int 0, .int 0, .int 0, .int 0, .int 0, .long 0, .int 0, .int 0])
  have hW : HW (mkw c0 c1 c2 c3 c4 c5 c6 c7 c8 c9 c10 c11 c12 c13) (adf (d) a0 [.ref a1, .int 0, .int 0, .int 0, .int 0, .int 0, .int 0, .int 0, .int 0, .long 0, .int 0, .int 0]) h := hW
  have hf : aF (adf (d) a0 [.ref a1, .int 0, .int 0, .int 0, .int 0, .int 0, .int 0, .int 0, .int 0, .long 0, .int 0, .int 0]) a0 = [.ref a1, .int 0, .int 0, .int 0, .int 0, .int 0, .int 0, .int 0, .int 0, .long 0, .int 0, .int 0] := adf_F _ _ _
  have ha0 : aK (adf (d) a0 [.ref a1, .int 0, .int 0, .int 0, .int 0, .int 0, .int 0, .int 0, .int 0, .long 0, .int 0, .int 0]) a0 = (3, 0, 0) := ha0
  have WO := own_w (c := 0) (X := aX d) (l := []) hd0 (Nat.le_refl _) W
  have fa1 := (WO.2.1 a1 za1 (by rw [ha1]; exact fun q => by cases q)).trans ha1
  have hO : HW (mkw (sR (zat c0 a0) 0 a0 a1) c1 c2 c3 c4 c5 c6 c7 c8 c9 c10 c11 c12 c13) (own (adf (d) a0 [.ref a1, .int 0, .int 0, .int 0, .int 0, .int 0, .int 0, .int 0, .int 0, .long 0, .int 0, .int 0]) 0 a0 (aX d) []) h := by
    refine hw_own2 (c := 0) (a := a0) (X := aX d) (l := []) (x := (sR (zat c0 a0) 0 a0 a1)) hW (by decide) ha0 (by decide +kernel) (fun i k e => ?_) (fun k b g => ?_) (fun k => ?_) ?_ (fun k hk h3 => ?_)
    · cases e
    · show cI _ k b = cI c0 k b ∧ cJ _ k b = cJ c0 k b ∧ cR _ k b = cR c0 k b ∧ cA _ k b = cA c0 k b ∧ cB _ k b = cB c0 k b ∧ cQ _ k b = cQ c0 k b
      simp [sI, sJ, sR, zat, cI, cJ, cR, cA, cB, cQ, up2, g]
    · simp [sI, sJ, sR, zat, cI, cJ, cR, cA, cB, cQ, up2]
    · rw [hf]
      show _ = ([.ref (cR (sR (zat c0 a0) 0 a0 a1) 0 a0), .int (cI (sR (zat c0 a0) 0 a0 a1) 1 a0), .int (cI (sR (zat c0 a0) 0 a0 a1) 2 a0), .int (cI (sR (zat c0 a0) 0 a0 a1) 3 a0), .int (cI (sR (zat c0 a0) 0 a0 a1) 4 a0), .int (cI (sR (zat c0 a0) 0 a0 a1) 5 a0), .int (cI (sR (zat c0 a0) 0 a0 a1) 6 a0), .int (cI (sR (zat c0 a0) 0 a0 a1) 7 a0), .int (cI (sR (zat c0 a0) 0 a0 a1) 8 a0), .long (cJ (sR (zat c0 a0) 0 a0 a1) 9 a0), .int (cI (sR (zat c0 a0) 0 a0 a1) 10 a0), .int (cI (sR (zat c0 a0) 0 a0 a1) 11 a0)] : List Value)
      simp [sI, sJ, sR, zat, cI, cJ, cR, cA, cB, cQ, up2, List.idxOf, List.findIdx, List.findIdx.go]
    · rcases k with _ | _ | _ | _ | _ | _ | _ | _ | _ | _ | _ | _ | k
      · show aK _ (cR (sR (zat c0 a0) 0 a0 a1) 0 a0) = _
        have : cR (sR (zat c0 a0) 0 a0 a1) 0 a0 = a1 := by simp [sI, sJ, sR, zat, cI, cJ, cR, cA, cB, cQ, up2]
        rw [this]; exact fa1
      · exact True.intro
      · exact True.intro
      · exact True.intro
      · exact True.intro
      · exact True.intro
      · exact True.intro
      · exact True.intro
      · exact True.intro
      · exact True.intro
      · exact True.intro
      · exact True.intro
      · exact absurd hk (Nat.not_lt.mpr (Nat.le_add_left _ _))
  exact en_ret (by decide +kernel : u_at kl_0 9 = some (.return_, [])) rfl ⟨rfl, hO, WO⟩
set_option maxRecDepth 100000 in
set_option maxHeartbeats 4000000 in
theorem e_36 {D : Nat} {c0 c1 c2 c3 c4 c5 c6 c7 c8 c9 c10 c11 c12 c13 : Cl} {d : Ad} {h : UH} {a0 a1 a2 a3 : Nat} (hD : 1 ≤ D) (hW : HW (mkw c0 c1 c2 c3 c4 c5 c6 c7 c8 c9 c10 c11 c12 c13) d h) (ha0 : aK d a0 = (3, 4, 0)) (hf : aF d a0 = [.null, .null, .null, .null]) (ha1 : aK d a1 = (2, 1, 0)) (ha2 : aK d a2 = (2, 1, 0)) (ha3 : aK d a3 = (2, 1, 0)) : ∃ q, EX D 36 [.ref a0, .ref a1, .ref a2, .ref a3] h q ∧ q.1 = none ∧ HW (mkw c0 c1 c2 c3 (sR (sR (sR (zat c4 a0) 0 a0 a1) 1 a0 a2) 2 a0 a3) c5 c6 c7 c8 c9 c10 c11 c12 c13) (own (adf (adf (adf (adf (adz (d) 2 60) a0 [.null, .null, .null, .ref (aX d)]) a0 [.ref a1, .null, .null, .ref (aX d)]) a0 [.ref a1, .ref a2, .null, .ref (aX d)]) a0 [.ref a1, .ref a2, .ref a3, .ref (aX d)]) 4 a0 (aX d) [some 3]) q.2 ∧ Adw a0 d (own (adf (adf (adf (adf (adz (d) 2 60) a0 [.null, .null, .null, .ref (aX d)]) a0 [.ref a1, .null, .null, .ref (aX d)]) a0 [.ref a1, .ref a2, .null, .ref (aX d)]) a0 [.ref a1, .ref a2, .ref a3, .ref (aX d)]) 4 a0 (aX d) [some 3]) := by
  obtain ⟨D, rfl⟩ : ∃ E, D = E + 1 := ⟨D - 1, by omega⟩
  have hd0 := hW
  have W : Adw a0 d d := Adw.of Adx.rf
  have za1 : a1 ≠ a0 := fun q => by rw [q, ha0] at ha1; cases ha1
  have za2 : a2 ≠ a0 := fun q => by rw [q, ha0] at ha2; cases ha2
  have za3 : a3 ≠ a0 := fun q => by rw [q, ha0] at ha3; cases ha3
  refine ex_in (kl := kl_36) (nL := 4) rfl (by decide +kernel) (Nat.le_of_ble_eq_true rfl) ?_
  show Ends (EX D) (u_at kl_36) (0, [some (.ref a0), some (.ref a1), some (.ref a2), some (.ref a3)], [], h) _
  refine en_segs [(0, .aload_n 0, []), (1, .invokespecial 3, []), (4, .aload_n 0, []), (5, .bipush 60, [])] (by decide +kernel) (y := (7, [some (.ref a0), some (.ref a1), some (.ref a2), some (.ref a3)], [.int 60, .ref a0], h)) rfl ?_
  refine en_nz (N := 60) (by decide +kernel : u_at kl_36 7 = some (.newarray .long, [2])) hW (by decide) (by decide) rfl (fun h hW x k0 n0 => ?_)
  have ha0 := (x.w ha0).1
  have W := W.trans (Adw.of x)
  have hf : aF (adz (d) 2 60) a0 = [.null, .null, .null, .null] := hf
  refine en_putr (v := .ref (aX d)) (by decide +kernel : u_at kl_36 9 = some (.putfield 11, [4, 3, 3])) hW ha0 (by rw [hf]; decide) rfl (fun h hW => ?_)
  rw [hf] at hW
  have W := W.trans (adf_w (adz (d) 2 60) a0 [.null, .null, .null, .ref (aX d)])
  have hW : HW (mkw c0 c1 c2 c3 c4 c5 c6 c7 c8 c9 c10 c11 c12 c13) (adf (adz (d) 2 60) a0 [.null, .null, .null, .ref (aX d)]) h := hW
  have hf : aF (adf (adz (d) 2 60) a0 [.null, .null, .null, .ref (aX d)]) a0 = [.null, .null, .null, .ref (aX d)] := adf_F _ _ _
  have ha0 : aK (adf (adz (d) 2 60) a0 [.null, .null, .null, .ref (aX d)]) a0 = (3, 4, 0) := ha0
  refine en_segs [(12, .aload_n 0, []), (13, .aload_n 1, [])] (by decide +kernel) (y := (14, [some (.ref a0), some (.ref a1), some (.ref a2), some (.ref a3)], [.ref a1, .ref a0], h)) rfl ?_
  refine en_putr (v := .ref a1) (by decide +kernel : u_at kl_36 14 = some (.putfield 17, [4, 0, 3])) hW ha0 (by rw [hf]; decide) rfl (fun h hW => ?_)
  rw [hf] at hW
  have W := W.trans (adf_w (adf (adz (d) 2 60) a0 [.null, .null, .null, .ref (aX d)]) a0 [.ref a1, .null, .null, .ref (aX d)])
  have hW : HW (mkw c0 c1 c2 c3 c4 c5 c6 c7 c8 c9 c10 c11 c12 c13) (adf (adf (adz (d) 2 60) a0 [.null, .null, .null, .ref (aX d)]) a0 [.ref a1, .null, .null, .ref (aX d)]) h := hW
  have hf : aF (adf (adf (adz (d) 2 60) a0 [.null, .null, .null, .ref (aX d)]) a0 [.ref a1, .null, .null, .ref (aX d)]) a0 = [.ref a1, .null, .null, .ref (aX d)] := adf_F _ _ _
  have ha0 : aK (adf (adf (adz (d) 2 60) a0 [.null, .null, .null, .ref (aX d)]) a0 [.ref a1, .null, .null, .ref (aX d)]) a0 = (3, 4, 0) := ha0
  refine en_segs [(17, .aload_n 0, []), (18, .aload_n 2, [])] (by decide +kernel) (y := (19, [some (.ref a0), some (.ref a1), some (.ref a2), some (.ref a3)], [.ref a2, .ref a0], h)) rfl ?_
  refine en_putr (v := .ref a2) (by decide +kernel : u_at kl_36 19 = some (.putfield 21, [4, 1, 3])) hW ha0 (by rw [hf]; decide) rfl (fun h hW => ?_)
  rw [hf] at hW
  have W := W.trans (adf_w (adf (adf (adz (d) 2 60) a0 [.null, .null, .null, .ref (aX d)]) a0 [.ref a1, .null, .null, .ref (aX d)]) a0 [.ref a1, .ref a2, .null, .ref (aX d)])
  have hW : HW (mkw c0 c1 c2 c3 c4 c5 c6 c7 c8 c9 c10 c11 c12 c13) (adf (adf (adf (adz (d) 2 60) a0 [.null, .null, .null, .ref (aX d)]) a0 [.ref a1, .null, .null, .ref (aX d)]) a0 [.ref a1, .ref a2, .null, .ref (aX d)]) h := hW
  have hf : aF (adf (adf (adf (adz (d) 2 60) a0 [.null, .null, .null, .ref (aX d)]) a0 [.ref a1, .null, .null, .ref (aX d)]) a0 [.ref a1, .ref a2, .null, .ref (aX d)]) a0 = [.ref a1, .ref a2, .null, .ref (aX d)] := adf_F _ _ _
  have ha0 : aK (adf (adf (adf (adz (d) 2 60) a0 [.null, .null, .null, .ref (aX d)]) a0 [.ref a1, .null, .null, .ref (aX d)]) a0 [.ref a1, .ref a2, .null, .ref (aX d)]) a0 = (3, 4, 0) := ha0
  refine en_segs [(22, .aload_n 0, []), (23, .aload_n 3, [])] (by decide +kernel) (y := (24, [some (.ref a0), some (.ref a1), some (.ref a2), some (.ref a3)], [.ref a3, .ref a0], h)) rfl ?_
  refine en_putr (v := .ref a3) (by decide +kernel : u_at kl_36 24 = some (.putfield 24, [4, 2, 3])) hW ha0 (by rw [hf]; decide) rfl (fun h hW => ?_)
  rw [hf] at hW
  have W := W.trans (adf_w (adf (adf (adf (adz (d) 2 60) a0 [.null, .null, .null, .ref (aX d)]) a0 [.ref a1, .null, .null, .ref (aX d)]) a0 [.ref a1, .ref a2, .null, .ref (aX d)]) a0 [.ref a1, .ref a2, .ref a3, .ref (aX d)])
  have hW : HW (mkw c0 c1 c2 c3 c4 c5 c6 c7 c8 c9 c10 c11 c12 c13) (adf (adf (adf (adf (adz (d) 2 60) a0 [.null, .null, .null, .ref (aX d)]) a0 [.ref a1, .null, .null, .ref (aX d)]) a0 [.ref a1, .ref a2, .null, .ref (aX d)]) a0 [.ref a1, .ref a2, .ref a3, .ref (aX d)]) h := hW
  have hf : aF (adf (adf (adf (adf (adz (d) 2 60) a0 [.null, .null, .null, .ref (aX d)]) a0 [.ref a1, .null, .null, .ref (aX d)]) a0 [.ref a1, .ref a2, .null, .ref (aX d)]) a0 [.ref a1, .ref a2, .ref a3, .ref (aX d)]) a0 = [.ref a1, .ref a2, .ref a3, .ref (aX d)] := adf_F _ _ _
  have ha0 : aK (adf (adf (adf (adf (adz (d) 2 60) a0 [.null, .null, .null, .ref (aX d)]) a0 [.ref a1, .null, .null, .ref (aX d)]) a0 [.ref a1, .ref a2, .null, .ref (aX d)]) a0 [.ref a1, .ref a2, .ref a3, .ref (aX d)]) a0 = (3, 4, 0) := ha0
  have WO := own_w (c := 4) (X := aX d) (l := [some 3]) hd0 (Nat.le_refl _) W
  have fa1 := (WO.2.1 a1 za1 (by rw [ha1]; exact fun q => by cases q)).trans ha1
  have fa2 := (WO.2.1 a2 za2 (by rw [ha2]; exact fun q => by cases q)).trans ha2
  have fa3 := (WO.2.1 a3 za3 (by rw [ha3]; exact fun q => by cases q)).trans ha3
  have hO : HW (mkw c0 c1 c2 c3 (sR (sR (sR (zat c4 a0) 0 a0 a1) 1 a0 a2) 2 a0 a3) c5 c6 c7 c8 c9 c10 c11 c12 c13) (own (adf (adf (adf (adf (adz (d) 2 60) a0 [.null, .null, .null, .ref (aX d)]) a0 [.ref a1, .null, .null, .ref (aX d)]) a0 [.ref a1, .ref a2, .null, .ref (aX d)]) a0 [.ref a1, .ref a2, .ref a3, .ref (aX d)]) 4 a0 (aX d) [some 3]) h := by
    refine hw_own2 (c := 4) (a := a0) (X := aX d) (l := [some 3]) (x := (sR (sR (sR (zat c4 a0) 0 a0 a1) 1 a0 a2) 2 a0 a3)) hW (by decide) ha0 (by decide +kernel) (fun i k e => ?_) (fun k b g => ?_) (fun k => ?_) ?_ (fun k hk h3 => ?_)
    · rcases i with _ | i
      · cases e; exact ⟨k0, n0⟩
      · cases e
    · show cI _ k b = cI c4 k b ∧ cJ _ k b = cJ c4 k b ∧ cR _ k b = cR c4 k b ∧ cA _ k b = cA c4 k b ∧ cB _ k b = cB c4 k b ∧ cQ _ k b = cQ c4 k b
      simp [sI, sJ, sR, zat, cI, cJ, cR, cA, cB, cQ, up2, g]
    · simp [sI, sJ, sR, zat, cI, cJ, cR, cA, cB, cQ, up2]
    · rw [hf]
      show _ = ([.ref (cR (sR (sR (sR (zat c4 a0) 0 a0 a1) 1 a0 a2) 2 a0 a3) 0 a0), .ref (cR (sR (sR (sR (zat c4 a0) 0 a0 a1) 1 a0 a2) 2 a0 a3) 1 a0), .ref (cR (sR (sR (sR (zat c4 a0) 0 a0 a1) 1 a0 a2) 2 a0 a3) 2 a0), .ref (if a0 = a0 then aX d + List.idxOf (some 3) [some 3] else aP (adf (adf (adf (adf (adz (d) 2 60) a0 [.null, .null, .null, .ref (aX d)]) a0 [.ref a1, .null, .null, .ref (aX d)]) a0 [.ref a1, .ref a2, .null, .ref (aX d)]) a0 [.ref a1, .ref a2, .ref a3, .ref (aX d)]) 4 3 a0)] : List Value)
      simp [sI, sJ, sR, zat, cI, cJ, cR, cA, cB, cQ, up2, List.idxOf, List.findIdx, List.findIdx.go]
    · rcases k with _ | _ | _ | _ | k
      · show aK _ (cR (sR (sR (sR (zat c4 a0) 0 a0 a1) 1 a0 a2) 2 a0 a3) 0 a0) = _
        have : cR (sR (sR (sR (zat c4 a0) 0 a0 a1) 1 a0 a2) 2 a0 a3) 0 a0 = a1 := by simp [sI, sJ, sR, zat, cI, cJ, cR, cA, cB, cQ, up2]
        rw [this]; exact fa1
      · show aK _ (cR (sR (sR (sR (zat c4 a0) 0 a0 a1) 1 a0 a2) 2 a0 a3) 1 a0) = _
        have : cR (sR (sR (sR (zat c4 a0) 0 a0 a1) 1 a0 a2) 2 a0 a3) 1 a0 = a2 := by simp [sI, sJ, sR, zat, cI, cJ, cR, cA, cB, cQ, up2]
        rw [this]; exact fa2
      · show aK _ (cR (sR (sR (sR (zat c4 a0) 0 a0 a1) 1 a0 a2) 2 a0 a3) 2 a0) = _
        have : cR (sR (sR (sR (zat c4 a0) 0 a0 a1) 1 a0 a2) 2 a0 a3) 2 a0 = a3 := by simp [sI, sJ, sR, zat, cI, cJ, cR, cA, cB, cQ, up2]
        rw [this]; exact fa3
      · exact absurd rfl h3
      · exact absurd hk (Nat.not_lt.mpr (Nat.le_add_left _ _))
  exact en_ret (by decide +kernel : u_at kl_36 27 = some (.return_, [])) rfl ⟨rfl, hO, WO⟩
set_option maxRecDepth 100000 in
set_option maxHeartbeats 4000000 in
theorem e_62 {D : Nat} {c0 c1 c2 c3 c4 c5 c6 c7 c8 c9 c10 c11 c12 c13 : Cl} {d : Ad} {h : UH} {a0 a1 : Nat} (hD : 1 ≤ D) (hW : HW (mkw c0 c1 c2 c3 c4 c5 c6 c7 c8 c9 c10 c11 c12 c13) d h) (ha0 : aK d a0 = (3, 7, 0)) (hf : aF d a0 = [.null, .int 0, .long 0, .int 0, .int 0, .int 0, .null, .null, .int 0, .int 0, .int 0, .int 0, .int 0]) (ha1 : aK d a1 = (0, 6, 0)) : ∃ q, EX D 62 [.ref a0, .ref a1] h q ∧ q.1 = none ∧ HW (mkw c0 c1 c2 c3 c4 c5 c6 (sR (zat c7 a0) 0 a0 a1) c8 c9 c10 c11 c12 c13) (own (adf (adf (adz (adf (adz (d) 1 6) a0 [.null, .int 0, .long 0, .int 0, .int 0, .int 0, .ref (aX d), .null, .int 0, .int 0, .int 0, .int 0, .int 0]) 1 150) a0 [.null, .int 0, .long 0, .int 0, .int 0, .int 0, .ref (aX d), .ref (aX d + 1), .int 0, .int 0, .int 0, .int 0, .int 0]) a0 [.ref a1, .int 0, .long 0, .int 0, .int 0, .int 0, .ref (aX d), .ref (aX d + 1), .int 0, .int 0, .int 0, .int 0, .int 0]) 7 a0 (aX d) [some 6, some 7]) q.2 ∧ Adw a0 d (own (adf (adf (adz (adf (adz (d) 1 6) a0 [.null, .int 0, .long 0, .int 0, .int 0, .int 0, .ref (aX d), .null, .int 0, .int 0, .int 0, .int 0, .int 0]) 1 150) a0 [.null, .int 0, .long 0, .int 0, .int 0, .int 0, .ref (aX d), .ref (aX d + 1), .int 0, .int 0, .int 0, .int 0, .int 0]) a0 [.ref a1, .int 0, .long 0, .int 0, .int 0, .int 0, .ref (aX d), .ref (aX d + 1), .int 0, .int 0, .int 0, .int 0, .int 0]) 7 a0 (aX d) [some 6, some 7]) := by
  obtain ⟨D, rfl⟩ : ∃ E, D = E + 1 := ⟨D - 1, by omega⟩
  have hd0 := hW
  have W : Adw a0 d d := Adw.of Adx.rf
  have za1 : a1 ≠ a0 := fun q => by rw [q, ha0] at ha1; cases ha1
  refine ex_in (kl := kl_62) (nL := 2) rfl (by decide +kernel) (Nat.le_of_ble_eq_true rfl) ?_
  show Ends (EX D) (u_at kl_62) (0, [some (.ref a0), some (.ref a1)], [], h) _
  refine en_segs [(0, .aload_n 0, []), (1, .invokespecial 3, []), (4, .aload_n 0, []), (5, .bipush 6, [])] (by decide +kernel) (y := (7, [some (.ref a0), some (.ref a1)], [.int 6, .ref a0], h)) rfl ?_
  refine en_nz (N := 6) (by decide +kernel : u_at kl_62 7 = some (.newarray .int, [1])) hW (by decide) (by decide) rfl (fun h hW x k0 n0 => ?_)
  have ha0 := (x.w ha0).1
  have W := W.trans (Adw.of x)
  have hf : aF (adz (d) 1 6) a0 = [.null, .int 0, .long 0, .int 0, .int 0, .int 0, .null, .null, .int 0, .int 0, .int 0, .int 0, .int 0] := hf
  refine en_putr (v := .ref (aX d)) (by decide +kernel : u_at kl_62 9 = some (.putfield 9, [7, 6, 3])) hW ha0 (by rw [hf]; decide) rfl (fun h hW => ?_)
  rw [hf] at hW
  have W := W.trans (adf_w (adz (d) 1 6) a0 [.null, .int 0, .long 0, .int 0, .int 0, .int 0, .ref (aX d), .null, .int 0, .int 0, .int 0, .int 0, .int 0])
  have hW : HW (mkw c0 c1 c2 c3 c4 c5 c6 c7 c8 c9 c10 c11 c12 c13) (adf (adz (d) 1 6) a0 [.null, .int 0, .long 0, .int 0, .int 0, .int 0, .ref (aX d), .null, .int 0, .int 0, .int 0, .int 0, .int 0]) h := hW
  have hf : aF (adf (adz (d) 1 6) a0 [.null, .int 0, .long 0, .int 0, .int 0, .int 0, .ref (aX d), .null, .int 0, .int 0, .int 0, .int 0, .int 0]) a0 = [.null, .int 0, .long 0, .int 0, .int 0, .int 0, .ref (aX d), .null, .int 0, .int 0, .int 0, .int 0, .int 0] := adf_F _ _ _
  have ha0 : aK (adf (adz (d) 1 6) a0 [.null, .int 0, .long 0, .int 0, .int 0, .int 0, .ref (aX d), .null, .int 0, .int 0, .int 0, .int 0, .int 0]) a0 = (3, 7, 0) := ha0
  refine en_segs [(12, .aload_n 0, []), (13, .sipush 150, [])] (by decide +kernel) (y := (16, [some (.ref a0), some (.ref a1)], [.int 150, .ref a0], h)) rfl ?_
  refine en_nz (N := 150) (by decide +kernel : u_at kl_62 16 = some (.newarray .int, [1])) hW (by decide) (by decide) rfl (fun h hW x k1 n1 => ?_)
  have n0 := (x.2.2.2.2.2.2.2 _ _ k0).trans n0
  have k0 := x.z k0
  have ha0 := (x.w ha0).1
  have W := W.trans (Adw.of x)
  have hf : aF (adz (adf (adz (d) 1 6) a0 [.null, .int 0, .long 0, .int 0, .int 0, .int 0, .ref (aX d), .null, .int 0, .int 0, .int 0, .int 0, .int 0]) 1 150) a0 = [.null, .int 0, .long 0, .int 0, .int 0, .int 0, .ref (aX d), .null, .int 0, .int 0, .int 0, .int 0, .int 0] := hf
  refine en_putr (v := .ref (aX d + 1)) (by decide +kernel : u_at kl_62 18 = some (.putfield 15, [7, 7, 3])) hW ha0 (by rw [hf]; decide) rfl (fun h hW => ?_)
  rw [hf] at hW
  have W := W.trans (adf_w (adz (adf (adz (d) 1 6) a0 [.null, .int 0, .long 0, .int 0, .int 0, .int 0, .ref (aX d), .null, .int 0, .int 0, .int 0, .int 0, .int 0]) 1 150) a0 [.null, .int 0, .long 0, .int 0, .int 0, .int 0, .ref (aX d), .ref (aX d + 1), .int 0, .int 0, .int 0, .int 0, .int 0])
  have hW : HW (mkw c0 c1 c2 c3 c4 c5 c6 c7 c8 c9 c10 c11 c12 c13) (adf (adz (adf (adz (d) 1 6) a0 [.null, .int 0, .long 0, .int 0, .int 0, .int 0, .ref (aX d), .null, .int 0, .int 0, .int 0, .int 0, .int 0]) 1 150) a0 [.null, .int 0, .long 0, .int 0, .int 0, .int 0, .ref (aX d), .ref (aX d + 1), .int 0, .int 0, .int 0, .int 0, .int 0]) h := hW
  have hf : aF (adf (adz (adf (adz (d) 1 6) a0 [.null, .int 0, .long 0, .int 0, .int 0, .int 0, .ref (aX d), .null, .int 0, .int 0, .int 0, .int 0, .int 0]) 1 150) a0 [.null, .int 0, .long 0, .int 0, .int 0, .int 0, .ref (aX d), .ref (aX d + 1), .int 0, .int 0, .int 0, .int 0, .int 0]) a0 = [.null, .int 0, .long 0, .int 0, .int 0, .int 0, .ref (aX d), .ref (aX d + 1), .int 0, .int 0, .int 0, .int 0, .int 0] := adf_F _ _ _
  have ha0 : aK (adf (adz (adf (adz (d) 1 6) a0 [.null, .int 0, .long 0, .int 0, .int 0, .int 0, .ref (aX d), .null, .int 0, .int 0, .int 0, .int 0, .int 0]) 1 150) a0 [.null, .int 0, .long 0, .int 0, .int 0, .int 0, .ref (aX d), .ref (aX d + 1), .int 0, .int 0, .int 0, .int 0, .int 0]) a0 = (3, 7, 0) := ha0
  refine en_segs [(21, .aload_n 0, []), (22, .aload_n 1, [])] (by decide +kernel) (y := (23, [some (.ref a0), some (.ref a1)], [.ref a1, .ref a0], h)) rfl ?_
  refine en_putr (v := .ref a1) (by decide +kernel : u_at kl_62 23 = some (.putfield 18, [7, 0, 3])) hW ha0 (by rw [hf]; decide) rfl (fun h hW => ?_)
  rw [hf] at hW
  have W := W.trans (adf_w (adf (adz (adf (adz (d) 1 6) a0 [.null, .int 0, .long 0, .int 0, .int 0, .int 0, .ref (aX d), .null, .int 0, .int 0, .int 0, .int 0, .int 0]) 1 150) a0 [.null, .int 0, .long 0, .int 0, .int 0, .int 0, .ref (aX d), .ref (aX d + 1), .int 0, .int 0, .int 0, .int 0, .int 0]) a0 [.ref a1, .int 0, .long 0, .int 0, .int 0, .int 0, .ref (aX d), .ref (aX d + 1), .int 0, .int 0, .int 0, .int 0, .int 0])
  have hW : HW (mkw c0 c1 c2 c3 c4 c5 c6 c7 c8 c9 c10 c11 c12 c13) (adf (adf (adz (adf (adz (d) 1 6) a0 [.null, .int 0, .long 0, .int 0, .int 0, .int 0, .ref (aX d), .null, .int 0, .int 0, .int 0, .int 0, .int 0]) 1 150) a0 [.null, .int 0, .long 0, .int 0, .int 0, .int 0, .ref (aX d), .ref (aX d + 1), .int 0, .int 0, .int 0, .int 0, .int 0]) a0 [.ref a1, .int 0, .long 0, .int 0, .int 0, .int 0, .ref (aX d), .ref (aX d + 1), .int 0, .int 0, .int 0, .int 0, .int 0]) h := hW
  have hf : aF (adf (adf (adz (adf (adz (d) 1 6) a0 [.null, .int 0, .long 0, .int 0, .int 0, .int 0, .ref (aX d), .null, .int 0, .int 0, .int 0, .int 0, .int 0]) 1 150) a0 [.null, .int 0, .long 0, .int 0, .int 0, .int 0, .ref (aX d), .ref (aX d + 1), .int 0, .int 0, .int 0, .int 0, .int 0]) a0 [.ref a1, .int 0, .long 0, .int 0, .int 0, .int 0, .ref (aX d), .ref (aX d + 1), .int 0, .int 0, .int 0, .int 0, .int 0]) a0 = [.ref a1, .int 0, .long 0, .int 0, .int 0, .int 0, .ref (aX d), .ref (aX d + 1), .int 0, .int 0, .int 0, .int 0, .int 0] := adf_F _ _ _
  have ha0 : aK (adf (adf (adz (adf (adz (d) 1 6) a0 [.null, .int 0, .long 0, .int 0, .int 0, .int 0, .ref (aX d), .null, .int 0, .int 0, .int 0, .int 0, .int 0]) 1 150) a0 [.null, .int 0, .long 0, .int 0, .int 0, .int 0, .ref (aX d), .ref (aX d + 1), .int 0, .int 0, .int 0, .int 0, .int 0]) a0 [.ref a1, .int 0, .long 0, .int 0, .int 0, .int 0, .ref (aX d), .ref (aX d + 1), .int 0, .int 0, .int 0, .int 0, .int 0]) a0 = (3, 7, 0) := ha0
  have WO := own_w (c := 7) (X := aX d) (l := [some 6, some 7]) hd0 (Nat.le_refl _) W
  have fa1 := (WO.2.1 a1 za1 (by rw [ha1]; exact fun q => by cases q)).trans ha1
  have hO : HW (mkw c0 c1 c2 c3 c4 c5 c6 (sR (zat c7 a0) 0 a0 a1) c8 c9 c10 c11 c12 c13) (own (adf (adf (adz (adf (adz (d) 1 6) a0 [.null, .int 0, .long 0, .int 0, .int 0, .int 0, .ref (aX d), .null, .int 0, .int 0, .int 0, .int 0, .int 0]) 1 150) a0 [.null, .int 0, .long 0, .int 0, .int 0, .int 0, .ref (aX d), .ref (aX d + 1), .int 0, .int 0, .int 0, .int 0, .int 0]) a0 [.ref a1, .int 0, .long 0, .int 0, .int 0, .int 0, .ref (aX d), .ref (aX d + 1), .int 0, .int 0, .int 0, .int 0, .int 0]) 7 a0 (aX d) [some 6, some 7]) h := by
    refine hw_own2 (c := 7) (a := a0) (X := aX d) (l := [some 6, some 7]) (x := (sR (zat c7 a0) 0 a0 a1)) hW (by decide) ha0 (by decide +kernel) (fun i k e => ?_) (fun k b g => ?_) (fun k => ?_) ?_ (fun k hk h3 => ?_)
    · rcases i with _ | _ | i
      · cases e; exact ⟨k0, n0⟩
      · cases e; exact ⟨k1, n1⟩
      · cases e
    · show cI _ k b = cI c7 k b ∧ cJ _ k b = cJ c7 k b ∧ cR _ k b = cR c7 k b ∧ cA _ k b = cA c7 k b ∧ cB _ k b = cB c7 k b ∧ cQ _ k b = cQ c7 k b
      simp [sI, sJ, sR, zat, cI, cJ, cR, cA, cB, cQ, up2, g]
    · simp [sI, sJ, sR, zat, cI, cJ, cR, cA, cB, cQ, up2]
    · rw [hf]
      show _ = ([.ref (cR (sR (zat c7 a0) 0 a0 a1) 0 a0), .int (cI (sR (zat c7 a0) 0 a0 a1) 1 a0), .long (cJ (sR (zat c7 a0) 0 a0 a1) 2 a0), .int (cI (sR (zat c7 a0) 0 a0 a1) 3 a0), .int (cI (sR (zat c7 a0) 0 a0 a1) 4 a0), .int (cI (sR (zat c7 a0) 0 a0 a1) 5 a0), .ref (if a0 = a0 then aX d + List.idxOf (some 6) [some 6, some 7] else aP (adf (adf (adz (adf (adz (d) 1 6) a0 [.null, .int 0, .long 0, .int 0, .int 0, .int 0, .ref (aX d), .null, .int 0, .int 0, .int 0, .int 0, .int 0]) 1 150) a0 [.null, .int 0, .long 0, .int 0, .int 0, .int 0, .ref (aX d), .ref (aX d + 1), .int 0, .int 0, .int 0, .int 0, .int 0]) a0 [.ref a1, .int 0, .long 0, .int 0, .int 0, .int 0, .ref (aX d), .ref (aX d + 1), .int 0, .int 0, .int 0, .int 0, .int 0]) 7 6 a0), .ref (if a0 = a0 then aX d + List.idxOf (some 7) [some 6, some 7] else aP (adf (adf (adz (adf (adz (d) 1 6) a0 [.null, .int 0, .long 0, .int 0, .int 0, .int 0, .ref (aX d), .null, .int 0, .int 0, .int 0, .int 0, .int 0]) 1 150) a0 [.null, .int 0, .long 0, .int 0, .int 0, .int 0, .ref (aX d), .ref (aX d + 1), .int 0, .int 0, .int 0, .int 0, .int 0]) a0 [.ref a1, .int 0, .long 0, .int 0, .int 0, .int 0, .ref (aX d), .ref (aX d + 1), .int 0, .int 0, .int 0, .int 0, .int 0]) 7 7 a0), .int (cI (sR (zat c7 a0) 0 a0 a1) 8 a0), .int (cI (sR (zat c7 a0) 0 a0 a1) 9 a0), .int (cI (sR (zat c7 a0) 0 a0 a1) 10 a0), .int (cI (sR (zat c7 a0) 0 a0 a1) 11 a0), .int (cI (sR (zat c7 a0) 0 a0 a1) 12 a0)] : List Value)
      simp [sI, sJ, sR, zat, cI, cJ, cR, cA, cB, cQ, up2, List.idxOf, List.findIdx, List.findIdx.go]
    · rcases k with _ | _ | _ | _ | _ | _ | _ | _ | _ | _ | _ | _ | _ | k
      · show aK _ (cR (sR (zat c7 a0) 0 a0 a1) 0 a0) = _
        have : cR (sR (zat c7 a0) 0 a0 a1) 0 a0 = a1 := by simp [sI, sJ, sR, zat, cI, cJ, cR, cA, cB, cQ, up2]
        rw [this]; exact fa1
      · exact True.intro
      · exact True.intro
      · exact True.intro
      · exact True.intro
      · exact True.intro
      · exact absurd rfl h3
      · exact absurd rfl h3
      · exact True.intro
      · exact True.intro
      · exact True.intro
      · exact True.intro
      · exact True.intro
      · exact absurd hk (Nat.not_lt.mpr (Nat.le_add_left _ _))
  exact en_ret (by decide +kernel : u_at kl_62 26 = some (.return_, [])) rfl ⟨rfl, hO, WO⟩
