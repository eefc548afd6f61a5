set_option maxRecDepth 100000 in
set_option maxHeartbeats 4000000 in
theorem e_0 {D : Nat} {c0 c1 c2 c3 c4 c5 c6 c7 c8 c9 c10 c11 c12 c13 : Cl} {d : Ad} {h : UH} {a0 a1 : Nat} (hD : 1 ≤ D) (hW : HW (mkw c0 c1 c2 c3 c4 c5 c6 c7 c8 c9 c10 c11 c12 c13) d h) (ha0 : aK d a0 = (3, 0, 0)) (hf : aF d a0 = [.null, .int 0, .int 0, .int 0, .int 0, .int 0, .int 0, .int 0, .int 0, .long 0, .int 0, .int 0]) (ha1 : aK d a1 = (0, 6, 0)) : ∃ q, EX D 0 [.ref a0, .ref a1] h q ∧ q.1 = none ∧ HW (mkw (sR (zat c0 a0) 0 a0 a1) c1 c2 c3 c4 c5 c6 c7 c8 c9 c10 c11 c12 c13) (own (adf (d) a0 [.ref a1, .int 0, .int 0, .int 0, .int 0, .int 0, .int 0, .int 0, .int 0, .long 0, .int 0, .int 0]) 0 a0 (aX d) []) q.2 ∧ Adw a0 d (own (adf (d) a0 [.ref a1, .int 0, .int 0, .int 0, .int 0, .int 0, .int 0, .int 0, .int 0, .long 0, .int 0, .int 0]) 0 a0 (aX d) []) := by
  obtain ⟨D, rfl⟩ : ∃ E, D = E + 1 := ⟨D - 1, by omega⟩
  have hd0 := hW
  have W : Adw a0 d d := Adw.of Adx.rf
  have za1 : a1 ≠ a0 := fun q => by rw [q, ha0] at ha1; cases ha1
  refine ex_in (kl := kl_0) (nL := 2) rfl (by decide +kernel) (Nat.le_of_ble_eq_true rfl) ?_
  show Ends (EX D) (u_at kl_0) (0, [some (.ref a0), some (.ref a1)], [], h) _
  refine en_segs [(0, .aload_n 0, []), (1, .invokespecial 3, []), (4, .aload_n 0, []), (5, .aload_n 1, [])] (by decide +kernel) (y := (6, [some (.ref a0), some (.ref a1)], [.ref a1, .ref a0], h)) rfl ?_
  refine en_putr (v := .ref a1) (by decide +kernel : u_at kl_0 6 = some (.putfield 9, [0, 0, 3])) hW ha0 (by rw [hf]; decide) rfl (fun h hW => ?_)
  rw [hf] at hW
  have W := W.trans (adf_w (d) a0 [.ref a1, .int 0, .int 0, .int 0, .int 0, .int 0, .int 0, .int 0, .int 0, .long 0, .int 0, .int 0])
  have hW : HW (mkw c0 c1 c2 c3 c4 c5 c6 c7 c8 c9 c10 c11 c12 c13) (adf (d) a0 [.ref a1, .int 0, .int 0, .int 0, .int 0, .int 0, .int 0, .int 0, .int 0, .long 0, .int 0, .int 0]) h := hW
  have hf : aF (adf (d) a0 [.ref a1, .int 0, .int 0, .int 0, .int 0, .int 0, .int 0, .int 0, .int 0, .long 0, .int 0, .int 0]) a0 = [.ref a1, .int 0, .int 0, .int 0, .int 0, .int 0, .int 0, .int 0, .int 0, .long 0, .int 0, .int 0] := adf_F _ _ _
  have ha0 : aK (adf (d) a0 [.ref a1, .int 0, .int 0, .int 0, .int 0, .int 0, .int 0, .int 0, .int 0, .long 0, .int 0, .int 0]) a0 = (3, 0, 0) := ha0
  have WO := own_w (c := 0) (X := aX d) (l := []) hd0 (Nat.le_refl _) W
  have fa1 := (WO.2.1 a1 za1 (by rw [ha1]; exact fun q => by cases q)).trans ha1
  have hO : HW (mkw (sR (zat c0 a0) 0 a0 a1) c1 c2 c3 c4 c5 c6 c7 c8 c9 c10 c11 c12 c13) (own (adf (d) a0 [.ref a1, .int 0, .int 0, .int 0, .int 0, .int 0, .int 0, .int 0, .int 0, .long 0, .int 0, .int 0]) 0 a0 (aX d) []) h := by
    refine hw_own2 (c := 0) (a := a0) (X := aX d) (l := []) (x := (sR (zat c0 a0) 0 a0 a1)) hW (by decide) ha0 (by decide +kernel) (fun i k e => ?_) (fun k b g => ?_) (fun k => ?_) ?_ (fun k hk h3 => ?_)
    · cases e
    · show cI _ k b = cI c0 k b ∧ cJ _ k b = cJ c0 k b ∧ cR _ k b = cR c0 k b ∧ cA _ k b = cA c0 k b ∧ cB _ k b = cB c0 k b ∧ cQ _ k b = cQ c0 k b
      simp [sI, sJ, sR, zat, cI, cJ, cR, cA, cB, cQ, up2, g]
    · simp [sI, sJ, sR, zat, cI, cJ, cR, cA, cB, cQ, up2]
    · rw [hf]
      show _ = ([.ref (cR (sR (zat c0 a0) 0 a0 a1) 0 a0), .int (cI (sR (zat c0 a0) 0 a0 a1) 1 a0), .int (cI (sR (zat c0 a0) 0 a0 a1) 2 a0), .int (cI (sR (zat c0 a0) 0 a0 a1) 3 a0), .int (cI (sR (zat c0 a0) 0 a0 a1) 4 a0), .int (cI (sR (zat c0 a0) 0 a0 a1) 5 a0), .int (cI (sR (zat c0 a0) 0 a0 a1) 6 a0), .int (cI (sR (zat c0 a0) 0 a0 a1) 7 a0), .int (cI (sR (zat c0 a0) 0 a0 a1) 8 a0), .long (cJ (sR (zat c0 a0) 0 a0 a1) 9 a0), .int (cI (sR (zat c0 a0) 0 a0 a1) 10 a0), .int (cI (sR (zat c0 a0) 0 a0 a1) 11 a0)] : List Value)
      simp [sI, sJ, sR, zat, cI, cJ, cR, cA, cB, cQ, up2, List.idxOf, List.findIdx, List.findIdx.go]
    · rcases k with _ | _ | _ | _ | _ | _ | _ | _ | _ | _ | _ | _ | k
      · show aK _ (cR (sR (zat c0 a0) 0 a0 a1) 0 a0) = _
        have : cR (sR (zat c0 a0) 0 a0 a1) 0 a0 = a1 := by simp [sI, sJ, sR, zat, cI, cJ, cR, cA, cB, cQ, up2]
        rw [this]; exact fa1
      · exact True.intro
      · exact True.intro
      · exact True.intro
      · exact True.intro
      · exact True.intro
      · exact True.intro
      · exact True.intro
      · exact True.intro
      · exact True.intro
      · exact True.intro
      · exact True.intro
      · exact absurd hk (Nat.not_lt.mpr (Nat.le_add_left _ _))
  exact en_ret (by decide +kernel : u_at kl_0 9 = some (.return_, [])) rfl ⟨rfl, hO, WO⟩
