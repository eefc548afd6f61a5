def F_159 (c1 : Cl) (c8 : Cl) (c10 : Cl) (c11 : Cl) (a0 : Nat) (p1 : Int32) : Option Int32 :=
  F_158 c1 c8 c10 c11 a0 p1 >>= fun r1 =>
  ((if r1 = 0 then
  some 0
  else
  F_83 c8 (cR c10 0 (cR c11 7 a0)) p1 >>= fun r8 =>
  if r8 = 0 then
  some 0
  else
  some 1) : Option (Int32)) >>= fun (t2 : Int32) =>
  zb t2 >>= fun z4 => some z4
set_option maxRecDepth 100000 in
set_option maxHeartbeats 4000000 in
/-- HeadCounts.isLiving -/
theorem e_159 {D : Nat} {c0 c1 c2 c3 c4 c5 c6 c7 c8 c9 c10 c11 c12 c13 : Cl} {d : Ad} {h : UH} {a0 : Nat} {p1 : Int32} {r : Int32} (hD : 2 ≤ D) (hW : HW (mkw c0 c1 c2 c3 c4 c5 c6 c7 c8 c9 c10 c11 c12 c13) d h) (ha0 : aK d a0 = (0, 11, 0)) (hF : F_159 c1 c8 c10 c11 a0 p1 = some r) : ∃ q, EX D 159 [.ref a0, .int p1] h q ∧ q.1 = some (.int r) ∧ h = q.2 := by
  obtain ⟨D, rfl⟩ : ∃ E, D = E + 1 := ⟨D - 1, by omega⟩
  unfold F_159 at hF
  refine ex_in (kl := kl_159) (nL := 2) rfl (by decide +kernel) (Nat.le_of_ble_eq_true rfl) ?_
  obtain ⟨QQ, hQQ⟩ : ∃ QQ : UR → Prop, QQ = (fun q : UR => q.1 = some (.int r) ∧ h = q.2) := ⟨_, rfl⟩
  rw [← hQQ]
  have hQ : QQ (some (.int r), h) := by rw [hQQ]; exact ⟨rfl, rfl⟩
  clear hQQ
  show Ends (EX D) (u_at kl_159) (0, [some (.ref a0), some (.int p1)], [], h) QQ
  refine en_segs [(0, .aload_n 0, []), (1, .iload_n 1, [])] (by decide +kernel) (y := (2, [some (.ref a0), some (.int p1)], [.int p1, .ref a0], h)) rfl ?_
  obtain ⟨r1, hr1, hF⟩ := ob_some hF
  refine en_vi (r := []) (by decide +kernel : u_at kl_159 2 = some (.invokevirtual 135, [158, 1, 11])) hW ha0 rfl rfl (Nat.le_of_ble_eq_true rfl) (e_158 (D := D) (by omega) hW ha0 hr1) (fun h' q => ?_)
  subst q
  obtain ⟨t2, hX, hK⟩ := ob_some hF
  have j3 : Ends (EX D) (u_at kl_159) (27, [some (.ref a0), some (.int p1)], [.int t2], h) QQ := by
    have hF := hK
    obtain ⟨z4, hz4, hF⟩ := ob_some hF
    obtain rfl := Option.some.inj hF
    exact en_retZ (by decide +kernel : u_at kl_159 27 = some (.ireturn, [1])) hz4 (hQ)
  have hF := hX
  refine en_if_eq (by decide +kernel : u_at kl_159 5 = some (.ifCond .eq 21, [26])) (fun b5 => ?_) (fun b5 => ?_)
  · replace hF := i_pos b5 hF
    refine en_segs [(26, .iconst 0, [])] (by decide +kernel) (y := (27, [some (.ref a0), some (.int p1)], [.int 0], h)) rfl ?_
    obtain rfl := Option.some.inj hF
    exact j3
  · replace hF := i_neg b5 hF
    refine en_segs [(8, .aload_n 0, [])] (by decide +kernel) (y := (9, [some (.ref a0), some (.int p1)], [.ref a0], h)) rfl ?_
    have k6 : aK d (cR c11 7 a0) = (0, 10, 0) := wf_obj hW ha0 (by decide) rfl
    refine en_get (by decide +kernel : u_at kl_159 9 = some (.getfield 52, [11, 7])) hW ha0 (by decide) rfl ?_
    have k7 : aK d (cR c10 0 (cR c11 7 a0)) = (0, 8, 0) := wf_obj hW k6 (by decide) rfl
    refine en_get (by decide +kernel : u_at kl_159 12 = some (.getfield 62, [10, 0])) hW k6 (by decide) rfl ?_
    refine en_segs [(15, .iload_n 1, [])] (by decide +kernel) (y := (16, [some (.ref a0), some (.int p1)], [.int p1, .ref (cR c10 0 (cR c11 7 a0))], h)) rfl ?_
    obtain ⟨r8, hr8, hF⟩ := ob_some hF
    refine en_vi (r := []) (by decide +kernel : u_at kl_159 16 = some (.invokevirtual 155, [83, 1, 8])) hW k7 rfl rfl (Nat.le_of_ble_eq_true rfl) (e_83 (D := D) (by omega) hW k7 hr8) (fun h' q => ?_)
    subst q
    refine en_if_eq (by decide +kernel : u_at kl_159 19 = some (.ifCond .eq 7, [26])) (fun b9 => ?_) (fun b9 => ?_)
    · replace hF := i_pos b9 hF
      refine en_segs [(26, .iconst 0, [])] (by decide +kernel) (y := (27, [some (.ref a0), some (.int p1)], [.int 0], h)) rfl ?_
      obtain rfl := Option.some.inj hF
      exact j3
    · replace hF := i_neg b9 hF
      refine en_segs [(22, .iconst 1, []), (23, .goto 4, [27])] (by decide +kernel) (y := (27, [some (.ref a0), some (.int p1)], [.int 1], h)) rfl ?_
      obtain rfl := Option.some.inj hF
      exact j3
def F_138 (c1 : Cl) (c4 : Cl) (c8 : Cl) (c10 : Cl) (c11 : Cl) (c13 : Cl) (d : Ad) (a0 : Nat) (p1 : Int32) (p2 : Int32) : Option (Int32 × Cl) :=
  F_163 c11 a0 p1 >>= fun r1 =>
  if r1 = 0 then
  some ((-1), c4)
  else
  F_159 c1 c8 c10 c11 a0 p2 >>= fun r3 =>
  if r3 = 0 then
  some ((-1), c4)
  else
  ldq (cQ c11 5 a0) 6 p1 >>= fun v5 =>
  v5 >>= fun o8 =>
  F_37 c1 c4 c8 c13 d o8 (cR c10 0 (cR c11 7 a0)) p2 >>= fun r10 =>
  ((if r10.1 = (-1) then
  some (-2)
  else
  some r10.1) : Option (Int32)) >>= fun (t11 : Int32) =>
  some (t11, r10.2)
set_option maxRecDepth 100000 in
set_option maxHeartbeats 4000000 in
/-- HeadCounts.would -/
theorem e_138 {D : Nat} {c0 c1 c2 c3 c4 c5 c6 c7 c8 c9 c10 c11 c12 c13 : Cl} {d : Ad} {h : UH} {a0 : Nat} {p1 : Int32} {p2 : Int32} {r : (Int32 × Cl)} (hD : 7 ≤ D) (hW : HW (mkw c0 c1 c2 c3 c4 c5 c6 c7 c8 c9 c10 c11 c12 c13) d h) (ha0 : aK d a0 = (0, 11, 0)) (hF : F_138 c1 c4 c8 c10 c11 c13 d a0 p1 p2 = some r) : ∃ q, EX D 138 [.ref a0, .int p1, .int p2] h q ∧ q.1 = some (.int r.1) ∧ HW (mkw c0 c1 c2 c3 r.2 c5 c6 c7 c8 c9 c10 c11 c12 c13) d q.2 := by
  obtain ⟨D, rfl⟩ : ∃ E, D = E + 1 := ⟨D - 1, by omega⟩
  unfold F_138 at hF
  refine ex_in (kl := kl_138) (nL := 4) rfl (by decide +kernel) (Nat.le_of_ble_eq_true rfl) ?_
  obtain ⟨QQ, hQQ⟩ : ∃ QQ : UR → Prop, QQ = (fun q : UR => q.1 = some (.int r.1) ∧ HW (mkw c0 c1 c2 c3 r.2 c5 c6 c7 c8 c9 c10 c11 c12 c13) d q.2) := ⟨_, rfl⟩
  rw [← hQQ]
  have hQ : ∀ h' : UH, HW (mkw c0 c1 c2 c3 r.2 c5 c6 c7 c8 c9 c10 c11 c12 c13) d h' → QQ (some (.int r.1), h') := fun h' p => by rw [hQQ]; exact ⟨rfl, p⟩
  clear hQQ
  show Ends (EX D) (u_at kl_138) (0, [some (.ref a0), some (.int p1), some (.int p2), none], [], h) QQ
  refine en_segs [(0, .aload_n 0, []), (1, .iload_n 1, [])] (by decide +kernel) (y := (2, [some (.ref a0), some (.int p1), some (.int p2), none], [.int p1, .ref a0], h)) rfl ?_
  obtain ⟨r1, hr1, hF⟩ := ob_some hF
  refine en_vi (r := []) (by decide +kernel : u_at kl_138 2 = some (.invokevirtual 238, [163, 1, 11])) hW ha0 rfl rfl (Nat.le_of_ble_eq_true rfl) (e_163 (D := D) (by omega) hW ha0 hr1) (fun h' q => ?_)
  subst q
  refine en_if_eq (by decide +kernel : u_at kl_138 5 = some (.ifCond .eq 11, [16])) (fun b2 => ?_) (fun b2 => ?_)
  · replace hF := i_pos b2 hF
    refine en_segs [(16, .iconst (-1), [])] (by decide +kernel) (y := (17, [some (.ref a0), some (.int p1), some (.int p2), none], [.int (-1)], h)) rfl ?_
    obtain rfl := Option.some.inj hF
    exact en_ret (by decide +kernel : u_at kl_138 17 = some (.ireturn, [0])) rfl (hQ _ hW)
  · replace hF := i_neg b2 hF
    refine en_segs [(8, .aload_n 0, []), (9, .iload_n 2, [])] (by decide +kernel) (y := (10, [some (.ref a0), some (.int p1), some (.int p2), none], [.int p2, .ref a0], h)) rfl ?_
    obtain ⟨r3, hr3, hF⟩ := ob_some hF
    refine en_vi (r := []) (by decide +kernel : u_at kl_138 10 = some (.invokevirtual 245, [159, 1, 11])) hW ha0 rfl rfl (Nat.le_of_ble_eq_true rfl) (e_159 (D := D) (by omega) hW ha0 hr3) (fun h' q => ?_)
    subst q
    refine en_if_ne (by decide +kernel : u_at kl_138 13 = some (.ifCond .ne 5, [18])) (fun b4 => ?_) (fun b4 => ?_)
    · replace hF := i_pos b4 hF
      refine en_segs [(16, .iconst (-1), [])] (by decide +kernel) (y := (17, [some (.ref a0), some (.int p1), some (.int p2), none], [.int (-1)], h)) rfl ?_
      obtain rfl := Option.some.inj hF
      exact en_ret (by decide +kernel : u_at kl_138 17 = some (.ireturn, [0])) rfl (hQ _ hW)
    · replace hF := i_neg b4 hF
      refine en_segs [(18, .aload_n 0, [])] (by decide +kernel) (y := (19, [some (.ref a0), some (.int p1), some (.int p2), none], [.ref a0], h)) rfl ?_
      refine en_get (by decide +kernel : u_at kl_138 19 = some (.getfield 40, [11, 5])) hW ha0 (by decide) rfl ?_
      refine en_segs [(22, .iload_n 1, [])] (by decide +kernel) (y := (23, [some (.ref a0), some (.int p1), some (.int p2), none], [.int p1, .ref (aP d 11 5 a0)], h)) rfl ?_
      obtain ⟨v5, hv5, hF⟩ := ob_some hF
      have ev5 : ∀ q, v5 = some q → aK d q = (0, 4, 0) := fun q e => wf_elem (t := 4) hW ha0 (by decide) rfl (by decide) ((ldq_some hv5).2.trans e)
      refine en_aald (by decide +kernel : u_at kl_138 23 = some (.aaload, [])) hW ha0 rfl (by decide) (by decide) hv5 ?_
      refine en_segs [(24, .aload_n 0, [])] (by decide +kernel) (y := (25, [some (.ref a0), some (.int p1), some (.int p2), none], [.ref a0, va_rf v5], h)) rfl ?_
      have k6 : aK d (cR c11 7 a0) = (0, 10, 0) := wf_obj hW ha0 (by decide) rfl
      refine en_get (by decide +kernel : u_at kl_138 25 = some (.getfield 52, [11, 7])) hW ha0 (by decide) rfl ?_
      have k7 : aK d (cR c10 0 (cR c11 7 a0)) = (0, 8, 0) := wf_obj hW k6 (by decide) rfl
      refine en_get (by decide +kernel : u_at kl_138 28 = some (.getfield 62, [10, 0])) hW k6 (by decide) rfl ?_
      refine en_segs [(31, .iload_n 2, [])] (by decide +kernel) (y := (32, [some (.ref a0), some (.int p1), some (.int p2), none], [.int p2, .ref (cR c10 0 (cR c11 7 a0)), va_rf v5], h)) rfl ?_
      obtain ⟨o8, ho8, hF⟩ := ob_some hF
      have k9 : aK d o8 = (0, 4, 0) := ev5 o8 ho8
      rw [ho8]
      obtain ⟨r10, hr10, hF⟩ := ob_some hF
      refine en_vi (r := []) (by decide +kernel : u_at kl_138 32 = some (.invokevirtual 248, [37, 2, 4])) hW k9 rfl rfl (Nat.le_of_ble_eq_true rfl) (e_37 (D := D) (by omega) hW k9 k7 hr10) (fun h hW => ?_)
      have hW : HW (mkw c0 c1 c2 c3 r10.2 c5 c6 c7 c8 c9 c10 c11 c12 c13) d h := hW
      refine en_segs [(35, .istore_n 3, []), (36, .iload_n 3, []), (37, .iconst (-1), [])] (by decide +kernel) (y := (38, [some (.ref a0), some (.int p1), some (.int p2), some (.int r10.1)], [.int (-1), .int r10.1], h)) rfl ?_
      obtain ⟨t11, hX, hK⟩ := ob_some hF
      have j12 : ∀ h : UH, HW (mkw c0 c1 c2 c3 r10.2 c5 c6 c7 c8 c9 c10 c11 c12 c13) d h → Ends (EX D) (u_at kl_138) (47, [some (.ref a0), some (.int p1), some (.int p2), some (.int r10.1)], [.int t11], h) QQ := by
        intro h hW
        have hF := hK
        obtain rfl := Option.some.inj hF
        exact en_ret (by decide +kernel : u_at kl_138 47 = some (.ireturn, [0])) rfl (hQ _ hW)
      have hF := hX
      refine en_ic_ne (by decide +kernel : u_at kl_138 38 = some (.if_icmp .ne 8, [46])) (fun b13 => ?_) (fun b13 => ?_)
      · replace hF := i_pos b13 hF
        refine en_segs [(41, .bipush (-2), []), (43, .goto 4, [47])] (by decide +kernel) (y := (47, [some (.ref a0), some (.int p1), some (.int p2), some (.int r10.1)], [.int (-2)], h)) rfl ?_
        obtain rfl := Option.some.inj hF
        exact j12 _ hW
      · replace hF := i_neg b13 hF
        refine en_segs [(46, .iload_n 3, [])] (by decide +kernel) (y := (47, [some (.ref a0), some (.int p1), some (.int p2), some (.int r10.1)], [.int r10.1], h)) rfl ?_
        obtain rfl := Option.some.inj hF
        exact j12 _ hW
def F_164 (p1 : Int32) : Option Int32 :=
  ((if p1 < 0 then
  some 0
  else
  if 99 < p1 then
  some 0
  else
  some 1) : Option (Int32)) >>= fun (t1 : Int32) =>
  zb t1 >>= fun z3 => some z3
set_option maxRecDepth 100000 in
set_option maxHeartbeats 4000000 in
/-- HeadCounts.isHalves -/
theorem e_164 {D : Nat} {c0 c1 c2 c3 c4 c5 c6 c7 c8 c9 c10 c11 c12 c13 : Cl} {d : Ad} {h : UH} {p1 : Int32} {r : Int32} (hD : 1 ≤ D) (hW : HW (mkw c0 c1 c2 c3 c4 c5 c6 c7 c8 c9 c10 c11 c12 c13) d h) (hF : F_164 p1 = some r) : ∃ q, EX D 164 [.int p1] h q ∧ q.1 = some (.int r) ∧ h = q.2 := by
  obtain ⟨D, rfl⟩ : ∃ E, D = E + 1 := ⟨D - 1, by omega⟩
  unfold F_164 at hF
  refine ex_in (kl := kl_164) (nL := 1) rfl (by decide +kernel) (Nat.le_of_ble_eq_true rfl) ?_
  obtain ⟨QQ, hQQ⟩ : ∃ QQ : UR → Prop, QQ = (fun q : UR => q.1 = some (.int r) ∧ h = q.2) := ⟨_, rfl⟩
  rw [← hQQ]
  have hQ : QQ (some (.int r), h) := by rw [hQQ]; exact ⟨rfl, rfl⟩
  clear hQQ
  show Ends (EX D) (u_at kl_164) (0, [some (.int p1)], [], h) QQ
  refine en_segs [(0, .iload_n 0, [])] (by decide +kernel) (y := (1, [some (.int p1)], [.int p1], h)) rfl ?_
  obtain ⟨t1, hX, hK⟩ := ob_some hF
  have j2 : Ends (EX D) (u_at kl_164) (15, [some (.int p1)], [.int t1], h) QQ := by
    have hF := hK
    obtain ⟨z3, hz3, hF⟩ := ob_some hF
    obtain rfl := Option.some.inj hF
    exact en_retZ (by decide +kernel : u_at kl_164 15 = some (.ireturn, [1])) hz3 (hQ)
  have hF := hX
  refine en_if_lt (by decide +kernel : u_at kl_164 1 = some (.ifCond .lt 13, [14])) (fun b4 => ?_) (fun b4 => ?_)
  · replace hF := i_pos b4 hF
    refine en_segs [(14, .iconst 0, [])] (by decide +kernel) (y := (15, [some (.int p1)], [.int 0], h)) rfl ?_
    obtain rfl := Option.some.inj hF
    exact j2
  · replace hF := i_neg b4 hF
    refine en_segs [(4, .iload_n 0, []), (5, .bipush 99, [])] (by decide +kernel) (y := (7, [some (.int p1)], [.int 99, .int p1], h)) rfl ?_
    refine en_ic_gt (by decide +kernel : u_at kl_164 7 = some (.if_icmp .gt 7, [14])) (fun b5 => ?_) (fun b5 => ?_)
    · replace hF := i_pos b5 hF
      refine en_segs [(14, .iconst 0, [])] (by decide +kernel) (y := (15, [some (.int p1)], [.int 0], h)) rfl ?_
      obtain rfl := Option.some.inj hF
      exact j2
    · replace hF := i_neg b5 hF
      refine en_segs [(10, .iconst 1, []), (11, .goto 4, [15])] (by decide +kernel) (y := (15, [some (.int p1)], [.int 1], h)) rfl ?_
      obtain rfl := Option.some.inj hF
      exact j2
def F_139 (c1 : Cl) (c7 : Cl) (c8 : Cl) (c10 : Cl) (c11 : Cl) (a0 : Nat) (p1 : Int32) (p2 : Int32) (p3 : Int32) : Option (Int32 × Cl × Cl) :=
  if p1 = (-1) then
  some (sI c10 5 (cR c11 7 a0) 0) >>= fun c10_3 =>
  some (sI c7 1 (cR c11 12 a0) 0) >>= fun c7_5 =>
  some (0, c7_5, c10_3)
  else
  if p1 < 0 then
  some ((-2), c7, c10)
  else
  if 8 < p1 then
  some ((-2), c7, c10)
  else
  F_162 c1 c8 c10 c11 a0 p2 >>= fun r8 =>
  if r8 = 0 then
  some ((-2), c7, c10)
  else
  F_164 p3 >>= fun r10 =>
  if r10 = 0 then
  some ((-2), c7, c10)
  else
  if (cI c10 5 (cR c11 7 a0)) < 12 then
  F_121 c10 (cR c11 7 a0) p1 p2 p3 >>= fun r14 =>
  some (sI c7 1 (cR c11 12 a0) 0) >>= fun c7_16 =>
  some (cI r14 5 (cR c11 7 a0), c7_16, r14)
  else
  some ((-2), c7, c10)
set_option maxRecDepth 100000 in
set_option maxHeartbeats 4000000 in
/-- HeadCounts.tell -/
theorem e_139 {D : Nat} {c0 c1 c2 c3 c4 c5 c6 c7 c8 c9 c10 c11 c12 c13 : Cl} {d : Ad} {h : UH} {a0 : Nat} {p1 : Int32} {p2 : Int32} {p3 : Int32} {r : (Int32 × Cl × Cl)} (hD : 2 ≤ D) (hW : HW (mkw c0 c1 c2 c3 c4 c5 c6 c7 c8 c9 c10 c11 c12 c13) d h) (ha0 : aK d a0 = (0, 11, 0)) (hF : F_139 c1 c7 c8 c10 c11 a0 p1 p2 p3 = some r) : ∃ q, EX D 139 [.ref a0, .int p1, .int p2, .int p3] h q ∧ q.1 = some (.int r.1) ∧ HW (mkw c0 c1 c2 c3 c4 c5 c6 r.2.1 c8 c9 r.2.2 c11 c12 c13) d q.2 := by
  obtain ⟨D, rfl⟩ : ∃ E, D = E + 1 := ⟨D - 1, by omega⟩
  unfold F_139 at hF
  refine ex_in (kl := kl_139) (nL := 4) rfl (by decide +kernel) (Nat.le_of_ble_eq_true rfl) ?_
  obtain ⟨QQ, hQQ⟩ : ∃ QQ : UR → Prop, QQ = (fun q : UR => q.1 = some (.int r.1) ∧ HW (mkw c0 c1 c2 c3 c4 c5 c6 r.2.1 c8 c9 r.2.2 c11 c12 c13) d q.2) := ⟨_, rfl⟩
  rw [← hQQ]
  have hQ : ∀ h' : UH, HW (mkw c0 c1 c2 c3 c4 c5 c6 r.2.1 c8 c9 r.2.2 c11 c12 c13) d h' → QQ (some (.int r.1), h') := fun h' p => by rw [hQQ]; exact ⟨rfl, p⟩
  clear hQQ
  show Ends (EX D) (u_at kl_139) (0, [some (.ref a0), some (.int p1), some (.int p2), some (.int p3)], [], h) QQ
  refine en_segs [(0, .iload_n 1, []), (1, .iconst (-1), [])] (by decide +kernel) (y := (2, [some (.ref a0), some (.int p1), some (.int p2), some (.int p3)], [.int (-1), .int p1], h)) rfl ?_
  refine en_ic_ne (by decide +kernel : u_at kl_139 2 = some (.if_icmp .ne 21, [23])) (fun b1 => ?_) (fun b1 => ?_)
  · replace hF := i_pos b1 hF
    refine en_segs [(5, .aload_n 0, [])] (by decide +kernel) (y := (6, [some (.ref a0), some (.int p1), some (.int p2), some (.int p3)], [.ref a0], h)) rfl ?_
    have k2 : aK d (cR c11 7 a0) = (0, 10, 0) := wf_obj hW ha0 (by decide) rfl
    refine en_get (by decide +kernel : u_at kl_139 6 = some (.getfield 52, [11, 7])) hW ha0 (by decide) rfl ?_
    refine en_segs [(9, .iconst 0, [])] (by decide +kernel) (y := (10, [some (.ref a0), some (.int p1), some (.int p2), some (.int p3)], [.int 0, .ref (cR c11 7 a0)], h)) rfl ?_
    obtain ⟨c10_3, hc10_3, hF⟩ := ob_some hF
    refine en_putI (by decide +kernel : u_at kl_139 10 = some (.putfield 252, [10, 5, 0])) hW k2 rfl (by decide) rfl (fun h hW => ?_)
    have hW : HW (mkw c0 c1 c2 c3 c4 c5 c6 c7 c8 c9 c10_3 c11 c12 c13) d h := by rw [← Option.some.inj hc10_3]; exact hW
    refine en_segs [(13, .aload_n 0, [])] (by decide +kernel) (y := (14, [some (.ref a0), some (.int p1), some (.int p2), some (.int p3)], [.ref a0], h)) rfl ?_
    have k4 : aK d (cR c11 12 a0) = (0, 7, 0) := wf_obj hW ha0 (by decide) rfl
    refine en_get (by decide +kernel : u_at kl_139 14 = some (.getfield 86, [11, 12])) hW ha0 (by decide) rfl ?_
    refine en_segs [(17, .iconst 0, [])] (by decide +kernel) (y := (18, [some (.ref a0), some (.int p1), some (.int p2), some (.int p3)], [.int 0, .ref (cR c11 12 a0)], h)) rfl ?_
    obtain ⟨c7_5, hc7_5, hF⟩ := ob_some hF
    refine en_putI (by decide +kernel : u_at kl_139 18 = some (.putfield 122, [7, 1, 2])) hW k4 rfl (by decide) rfl (fun h hW => ?_)
    have hW : HW (mkw c0 c1 c2 c3 c4 c5 c6 c7_5 c8 c9 c10_3 c11 c12 c13) d h := by rw [← Option.some.inj hc7_5]; exact hW
    refine en_segs [(21, .iconst 0, [])] (by decide +kernel) (y := (22, [some (.ref a0), some (.int p1), some (.int p2), some (.int p3)], [.int 0], h)) rfl ?_
    obtain rfl := Option.some.inj hF
    exact en_ret (by decide +kernel : u_at kl_139 22 = some (.ireturn, [0])) rfl (hQ _ hW)
  · replace hF := i_neg b1 hF
    refine en_segs [(23, .iload_n 1, [])] (by decide +kernel) (y := (24, [some (.ref a0), some (.int p1), some (.int p2), some (.int p3)], [.int p1], h)) rfl ?_
    refine en_if_lt (by decide +kernel : u_at kl_139 24 = some (.ifCond .lt 36, [60])) (fun b6 => ?_) (fun b6 => ?_)
    · replace hF := i_pos b6 hF
      refine en_segs [(60, .bipush (-2), [])] (by decide +kernel) (y := (62, [some (.ref a0), some (.int p1), some (.int p2), some (.int p3)], [.int (-2)], h)) rfl ?_
      obtain rfl := Option.some.inj hF
      exact en_ret (by decide +kernel : u_at kl_139 62 = some (.ireturn, [0])) rfl (hQ _ hW)
    · replace hF := i_neg b6 hF
      refine en_segs [(27, .iload_n 1, []), (28, .bipush 8, [])] (by decide +kernel) (y := (30, [some (.ref a0), some (.int p1), some (.int p2), some (.int p3)], [.int 8, .int p1], h)) rfl ?_
      refine en_ic_gt (by decide +kernel : u_at kl_139 30 = some (.if_icmp .gt 30, [60])) (fun b7 => ?_) (fun b7 => ?_)
      · replace hF := i_pos b7 hF
        refine en_segs [(60, .bipush (-2), [])] (by decide +kernel) (y := (62, [some (.ref a0), some (.int p1), some (.int p2), some (.int p3)], [.int (-2)], h)) rfl ?_
        obtain rfl := Option.some.inj hF
        exact en_ret (by decide +kernel : u_at kl_139 62 = some (.ireturn, [0])) rfl (hQ _ hW)
      · replace hF := i_neg b7 hF
        refine en_segs [(33, .aload_n 0, []), (34, .iload_n 2, [])] (by decide +kernel) (y := (35, [some (.ref a0), some (.int p1), some (.int p2), some (.int p3)], [.int p2, .ref a0], h)) rfl ?_
        obtain ⟨r8, hr8, hF⟩ := ob_some hF
        refine en_vi (r := []) (by decide +kernel : u_at kl_139 35 = some (.invokevirtual 195, [162, 1, 11])) hW ha0 rfl rfl (Nat.le_of_ble_eq_true rfl) (e_162 (D := D) (by omega) hW ha0 hr8) (fun h' q => ?_)
        subst q
        refine en_if_eq (by decide +kernel : u_at kl_139 38 = some (.ifCond .eq 22, [60])) (fun b9 => ?_) (fun b9 => ?_)
        · replace hF := i_pos b9 hF
          refine en_segs [(60, .bipush (-2), [])] (by decide +kernel) (y := (62, [some (.ref a0), some (.int p1), some (.int p2), some (.int p3)], [.int (-2)], h)) rfl ?_
          obtain rfl := Option.some.inj hF
          exact en_ret (by decide +kernel : u_at kl_139 62 = some (.ireturn, [0])) rfl (hQ _ hW)
        · replace hF := i_neg b9 hF
          refine en_segs [(41, .iload_n 3, [])] (by decide +kernel) (y := (42, [some (.ref a0), some (.int p1), some (.int p2), some (.int p3)], [.int p3], h)) rfl ?_
          obtain ⟨r10, hr10, hF⟩ := ob_some hF
          refine en_si (r := []) (by decide +kernel : u_at kl_139 42 = some (.invokestatic 255, [164, 1])) rfl rfl (Nat.le_of_ble_eq_true rfl) (e_164 (D := D) (by omega) hW hr10) (fun h' q => ?_)
          subst q
          refine en_if_eq (by decide +kernel : u_at kl_139 45 = some (.ifCond .eq 15, [60])) (fun b11 => ?_) (fun b11 => ?_)
          · replace hF := i_pos b11 hF
            refine en_segs [(60, .bipush (-2), [])] (by decide +kernel) (y := (62, [some (.ref a0), some (.int p1), some (.int p2), some (.int p3)], [.int (-2)], h)) rfl ?_
            obtain rfl := Option.some.inj hF
            exact en_ret (by decide +kernel : u_at kl_139 62 = some (.ireturn, [0])) rfl (hQ _ hW)
          · replace hF := i_neg b11 hF
            refine en_segs [(48, .aload_n 0, [])] (by decide +kernel) (y := (49, [some (.ref a0), some (.int p1), some (.int p2), some (.int p3)], [.ref a0], h)) rfl ?_
            have k12 : aK d (cR c11 7 a0) = (0, 10, 0) := wf_obj hW ha0 (by decide) rfl
            refine en_get (by decide +kernel : u_at kl_139 49 = some (.getfield 52, [11, 7])) hW ha0 (by decide) rfl ?_
            refine en_get (by decide +kernel : u_at kl_139 52 = some (.getfield 252, [10, 5])) hW k12 (by decide) rfl ?_
            refine en_segs [(55, .bipush 12, [])] (by decide +kernel) (y := (57, [some (.ref a0), some (.int p1), some (.int p2), some (.int p3)], [.int 12, .int (cI c10 5 (cR c11 7 a0))], h)) rfl ?_
            refine en_ic_lt (by decide +kernel : u_at kl_139 57 = some (.if_icmp .lt 6, [63])) (fun b13 => ?_) (fun b13 => ?_)
            · replace hF := i_pos b13 hF
              refine en_segs [(63, .aload_n 0, [])] (by decide +kernel) (y := (64, [some (.ref a0), some (.int p1), some (.int p2), some (.int p3)], [.ref a0], h)) rfl ?_
              refine en_get (by decide +kernel : u_at kl_139 64 = some (.getfield 52, [11, 7])) hW ha0 (by decide) rfl ?_
              refine en_segs [(67, .iload_n 1, []), (68, .iload_n 2, []), (69, .iload_n 3, [])] (by decide +kernel) (y := (70, [some (.ref a0), some (.int p1), some (.int p2), some (.int p3)], [.int p3, .int p2, .int p1, .ref (cR c11 7 a0)], h)) rfl ?_
              obtain ⟨r14, hr14, hF⟩ := ob_some hF
              refine en_vv (r := []) (by decide +kernel : u_at kl_139 70 = some (.invokevirtual 258, [121, 3, 10])) hW k12 rfl rfl (Nat.le_of_ble_eq_true rfl) (e_121 (D := D) (by omega) hW k12 hr14) (fun h hW => ?_)
              have hW : HW (mkw c0 c1 c2 c3 c4 c5 c6 c7 c8 c9 r14 c11 c12 c13) d h := hW
              refine en_segs [(73, .aload_n 0, [])] (by decide +kernel) (y := (74, [some (.ref a0), some (.int p1), some (.int p2), some (.int p3)], [.ref a0], h)) rfl ?_
              have k15 : aK d (cR c11 12 a0) = (0, 7, 0) := wf_obj hW ha0 (by decide) rfl
              refine en_get (by decide +kernel : u_at kl_139 74 = some (.getfield 86, [11, 12])) hW ha0 (by decide) rfl ?_
              refine en_segs [(77, .iconst 0, [])] (by decide +kernel) (y := (78, [some (.ref a0), some (.int p1), some (.int p2), some (.int p3)], [.int 0, .ref (cR c11 12 a0)], h)) rfl ?_
              obtain ⟨c7_16, hc7_16, hF⟩ := ob_some hF
              refine en_putI (by decide +kernel : u_at kl_139 78 = some (.putfield 122, [7, 1, 2])) hW k15 rfl (by decide) rfl (fun h hW => ?_)
              have hW : HW (mkw c0 c1 c2 c3 c4 c5 c6 c7_16 c8 c9 r14 c11 c12 c13) d h := by rw [← Option.some.inj hc7_16]; exact hW
              refine en_segs [(81, .aload_n 0, [])] (by decide +kernel) (y := (82, [some (.ref a0), some (.int p1), some (.int p2), some (.int p3)], [.ref a0], h)) rfl ?_
              refine en_get (by decide +kernel : u_at kl_139 82 = some (.getfield 52, [11, 7])) hW ha0 (by decide) rfl ?_
              refine en_get (by decide +kernel : u_at kl_139 85 = some (.getfield 252, [10, 5])) hW k12 (by decide) rfl ?_
              obtain rfl := Option.some.inj hF
              exact en_ret (by decide +kernel : u_at kl_139 88 = some (.ireturn, [0])) rfl (hQ _ hW)
            · replace hF := i_neg b13 hF
              refine en_segs [(60, .bipush (-2), [])] (by decide +kernel) (y := (62, [some (.ref a0), some (.int p1), some (.int p2), some (.int p3)], [.int (-2)], h)) rfl ?_
              obtain rfl := Option.some.inj hF
              exact en_ret (by decide +kernel : u_at kl_139 62 = some (.ireturn, [0])) rfl (hQ _ hW)
def F_140 (c1 : Cl) (c6 : Cl) (c7 : Cl) (c8 : Cl) (c10 : Cl) (c11 : Cl) (c13 : Cl) (d : Ad) (a0 : Nat) : Option (Int64 × Cl × Cl × Cl × Ad) :=
  F_157 c1 c8 c10 c11 a0 >>= fun r1 =>
  if r1 = 0 then
  some ((-1), c6, c7, c13, d)
  else
  F_63 c1 c6 c7 c8 c10 c13 d (cR c11 12 a0) (cR c11 7 a0) >>= fun r5 =>
  some (cJ r5.2.1 2 (cR c11 12 a0), r5.1, r5.2.1, r5.2.2.1, r5.2.2.2)
set_option maxRecDepth 100000 in
set_option maxHeartbeats 4000000 in
/-- HeadCounts.fits -/
theorem e_140 {D : Nat} {c0 c1 c2 c3 c4 c5 c6 c7 c8 c9 c10 c11 c12 c13 : Cl} {d : Ad} {h : UH} {a0 : Nat} {r : (Int64 × Cl × Cl × Cl × Ad)} (hD : 7 ≤ D) (hW : HW (mkw c0 c1 c2 c3 c4 c5 c6 c7 c8 c9 c10 c11 c12 c13) d h) (ha0 : aK d a0 = (0, 11, 0)) (hF : F_140 c1 c6 c7 c8 c10 c11 c13 d a0 = some r) : ∃ q, EX D 140 [.ref a0] h q ∧ q.1 = some (.long r.1) ∧ HX d (mkw c0 c1 c2 c3 c4 c5 r.2.1 r.2.2.1 c8 c9 c10 c11 c12 r.2.2.2.1) r.2.2.2.2 q.2 := by
  obtain ⟨D, rfl⟩ : ∃ E, D = E + 1 := ⟨D - 1, by omega⟩
  unfold F_140 at hF
  refine ex_in (kl := kl_140) (nL := 1) rfl (by decide +kernel) (Nat.le_of_ble_eq_true rfl) ?_
  obtain ⟨QQ, hQQ⟩ : ∃ QQ : UR → Prop, QQ = (fun q : UR => q.1 = some (.long r.1) ∧ HX d (mkw c0 c1 c2 c3 c4 c5 r.2.1 r.2.2.1 c8 c9 c10 c11 c12 r.2.2.2.1) r.2.2.2.2 q.2) := ⟨_, rfl⟩
  rw [← hQQ]
  have hQ : ∀ h' : UH, HX d (mkw c0 c1 c2 c3 c4 c5 r.2.1 r.2.2.1 c8 c9 c10 c11 c12 r.2.2.2.1) r.2.2.2.2 h' → QQ (some (.long r.1), h') := fun h' p => by rw [hQQ]; exact ⟨rfl, p⟩
  clear hQQ
  show Ends (EX D) (u_at kl_140) (0, [some (.ref a0)], [], h) QQ
  refine en_segs [(0, .aload_n 0, [])] (by decide +kernel) (y := (1, [some (.ref a0)], [.ref a0], h)) rfl ?_
  obtain ⟨r1, hr1, hF⟩ := ob_some hF
  refine en_vi (r := []) (by decide +kernel : u_at kl_140 1 = some (.invokevirtual 222, [157, 0, 11])) hW ha0 rfl rfl (Nat.le_of_ble_eq_true rfl) (e_157 (D := D) (by omega) hW ha0 hr1) (fun h' q => ?_)
  subst q
  refine en_if_ne (by decide +kernel : u_at kl_140 4 = some (.ifCond .ne 7, [11])) (fun b2 => ?_) (fun b2 => ?_)
  · replace hF := i_pos b2 hF
    refine en_segs [(7, .ldc2_w 262, [18446744073709551615])] (by decide +kernel) (y := (10, [some (.ref a0)], [.long (-1)], h)) rfl ?_
    obtain rfl := Option.some.inj hF
    exact en_ret (by decide +kernel : u_at kl_140 10 = some (.lreturn, [])) rfl (hQ _ ⟨hW, Adx.rf⟩)
  · replace hF := i_neg b2 hF
    refine en_segs [(11, .aload_n 0, [])] (by decide +kernel) (y := (12, [some (.ref a0)], [.ref a0], h)) rfl ?_
    have k3 : aK d (cR c11 12 a0) = (0, 7, 0) := wf_obj hW ha0 (by decide) rfl
    refine en_get (by decide +kernel : u_at kl_140 12 = some (.getfield 86, [11, 12])) hW ha0 (by decide) rfl ?_
    refine en_segs [(15, .aload_n 0, [])] (by decide +kernel) (y := (16, [some (.ref a0)], [.ref a0, .ref (cR c11 12 a0)], h)) rfl ?_
    have k4 : aK d (cR c11 7 a0) = (0, 10, 0) := wf_obj hW ha0 (by decide) rfl
    refine en_get (by decide +kernel : u_at kl_140 16 = some (.getfield 52, [11, 7])) hW ha0 (by decide) rfl ?_
    obtain ⟨r5, hr5, hF⟩ := ob_some hF
    refine en_vv (r := []) (by decide +kernel : u_at kl_140 19 = some (.invokevirtual 264, [63, 1, 7])) hW k3 rfl rfl (Nat.le_of_ble_eq_true rfl) (e_63 (D := D) (by omega) hW k3 k4 hr5) (fun h q => ?_)
    obtain ⟨hW, X6⟩ := q
    have ha0 := X6.o ha0
    have k3 := X6.o k3
    have k4 := X6.o k4
    have A7 := X6
    have hW : HW (mkw c0 c1 c2 c3 c4 c5 r5.1 r5.2.1 c8 c9 c10 c11 c12 r5.2.2.1) r5.2.2.2 h := hW
    refine en_segs [(22, .aload_n 0, [])] (by decide +kernel) (y := (23, [some (.ref a0)], [.ref a0], h)) rfl ?_
    refine en_get (by decide +kernel : u_at kl_140 23 = some (.getfield 86, [11, 12])) hW ha0 (by decide) rfl ?_
    refine en_get (by decide +kernel : u_at kl_140 26 = some (.getfield 268, [7, 2])) hW k3 (by decide) rfl ?_
    obtain rfl := Option.some.inj hF
    exact en_ret (by decide +kernel : u_at kl_140 29 = some (.lreturn, [])) rfl (hQ _ ⟨hW, A7⟩)
def F_141 (c1 : Cl) (c6 : Cl) (c7 : Cl) (c8 : Cl) (c10 : Cl) (c11 : Cl) (c13 : Cl) (d : Ad) (a0 : Nat) (p1 : Int32) : Option (Int32 × Cl × Cl × Cl × Ad) :=
  F_159 c1 c8 c10 c11 a0 p1 >>= fun r1 =>
  if r1 = 0 then
  some ((-1), c6, c7, c13, d)
  else
  F_63 c1 c6 c7 c8 c10 c13 d (cR c11 12 a0) (cR c11 7 a0) >>= fun r5 =>
  ald (cA r5.2.1 6 (cR c11 12 a0)) 6 p1 >>= fun v8 =>
  some (v8, r5.1, r5.2.1, r5.2.2.1, r5.2.2.2)
set_option maxRecDepth 100000 in
set_option maxHeartbeats 4000000 in
/-- HeadCounts.who -/
theorem e_141 {D : Nat} {c0 c1 c2 c3 c4 c5 c6 c7 c8 c9 c10 c11 c12 c13 : Cl} {d : Ad} {h : UH} {a0 : Nat} {p1 : Int32} {r : (Int32 × Cl × Cl × Cl × Ad)} (hD : 7 ≤ D) (hW : HW (mkw c0 c1 c2 c3 c4 c5 c6 c7 c8 c9 c10 c11 c12 c13) d h) (ha0 : aK d a0 = (0, 11, 0)) (hF : F_141 c1 c6 c7 c8 c10 c11 c13 d a0 p1 = some r) : ∃ q, EX D 141 [.ref a0, .int p1] h q ∧ q.1 = some (.int r.1) ∧ HX d (mkw c0 c1 c2 c3 c4 c5 r.2.1 r.2.2.1 c8 c9 c10 c11 c12 r.2.2.2.1) r.2.2.2.2 q.2 := by
  obtain ⟨D, rfl⟩ : ∃ E, D = E + 1 := ⟨D - 1, by omega⟩
  unfold F_141 at hF
  refine ex_in (kl := kl_141) (nL := 2) rfl (by decide +kernel) (Nat.le_of_ble_eq_true rfl) ?_
  obtain ⟨QQ, hQQ⟩ : ∃ QQ : UR → Prop, QQ = (fun q : UR => q.1 = some (.int r.1) ∧ HX d (mkw c0 c1 c2 c3 c4 c5 r.2.1 r.2.2.1 c8 c9 c10 c11 c12 r.2.2.2.1) r.2.2.2.2 q.2) := ⟨_, rfl⟩
  rw [← hQQ]
  have hQ : ∀ h' : UH, HX d (mkw c0 c1 c2 c3 c4 c5 r.2.1 r.2.2.1 c8 c9 c10 c11 c12 r.2.2.2.1) r.2.2.2.2 h' → QQ (some (.int r.1), h') := fun h' p => by rw [hQQ]; exact ⟨rfl, p⟩
  clear hQQ
  show Ends (EX D) (u_at kl_141) (0, [some (.ref a0), some (.int p1)], [], h) QQ
  refine en_segs [(0, .aload_n 0, []), (1, .iload_n 1, [])] (by decide +kernel) (y := (2, [some (.ref a0), some (.int p1)], [.int p1, .ref a0], h)) rfl ?_
  obtain ⟨r1, hr1, hF⟩ := ob_some hF
  refine en_vi (r := []) (by decide +kernel : u_at kl_141 2 = some (.invokevirtual 245, [159, 1, 11])) hW ha0 rfl rfl (Nat.le_of_ble_eq_true rfl) (e_159 (D := D) (by omega) hW ha0 hr1) (fun h' q => ?_)
  subst q
  refine en_if_ne (by decide +kernel : u_at kl_141 5 = some (.ifCond .ne 5, [10])) (fun b2 => ?_) (fun b2 => ?_)
  · replace hF := i_pos b2 hF
    refine en_segs [(8, .iconst (-1), [])] (by decide +kernel) (y := (9, [some (.ref a0), some (.int p1)], [.int (-1)], h)) rfl ?_
    obtain rfl := Option.some.inj hF
    exact en_ret (by decide +kernel : u_at kl_141 9 = some (.ireturn, [0])) rfl (hQ _ ⟨hW, Adx.rf⟩)
  · replace hF := i_neg b2 hF
    refine en_segs [(10, .aload_n 0, [])] (by decide +kernel) (y := (11, [some (.ref a0), some (.int p1)], [.ref a0], h)) rfl ?_
    have k3 : aK d (cR c11 12 a0) = (0, 7, 0) := wf_obj hW ha0 (by decide) rfl
    refine en_get (by decide +kernel : u_at kl_141 11 = some (.getfield 86, [11, 12])) hW ha0 (by decide) rfl ?_
    refine en_segs [(14, .aload_n 0, [])] (by decide +kernel) (y := (15, [some (.ref a0), some (.int p1)], [.ref a0, .ref (cR c11 12 a0)], h)) rfl ?_
    have k4 : aK d (cR c11 7 a0) = (0, 10, 0) := wf_obj hW ha0 (by decide) rfl
    refine en_get (by decide +kernel : u_at kl_141 15 = some (.getfield 52, [11, 7])) hW ha0 (by decide) rfl ?_
    obtain ⟨r5, hr5, hF⟩ := ob_some hF
    refine en_vv (r := []) (by decide +kernel : u_at kl_141 18 = some (.invokevirtual 264, [63, 1, 7])) hW k3 rfl rfl (Nat.le_of_ble_eq_true rfl) (e_63 (D := D) (by omega) hW k3 k4 hr5) (fun h q => ?_)
    obtain ⟨hW, X6⟩ := q
    have ha0 := X6.o ha0
    have k3 := X6.o k3
    have k4 := X6.o k4
    have A7 := X6
    have hW : HW (mkw c0 c1 c2 c3 c4 c5 r5.1 r5.2.1 c8 c9 c10 c11 c12 r5.2.2.1) r5.2.2.2 h := hW
    refine en_segs [(21, .aload_n 0, [])] (by decide +kernel) (y := (22, [some (.ref a0), some (.int p1)], [.ref a0], h)) rfl ?_
    refine en_get (by decide +kernel : u_at kl_141 22 = some (.getfield 86, [11, 12])) hW ha0 (by decide) rfl ?_
    refine en_get (by decide +kernel : u_at kl_141 25 = some (.getfield 272, [7, 6])) hW k3 (by decide) rfl ?_
    refine en_segs [(28, .iload_n 1, [])] (by decide +kernel) (y := (29, [some (.ref a0), some (.int p1)], [.int p1, .ref (aP r5.2.2.2 7 6 (cR c11 12 a0))], h)) rfl ?_
    obtain ⟨v8, hv8, hF⟩ := ob_some hF
    refine en_iald (by decide +kernel : u_at kl_141 29 = some (.iaload, [])) hW k3 rfl (by decide) hv8 ?_
    obtain rfl := Option.some.inj hF
    exact en_ret (by decide +kernel : u_at kl_141 30 = some (.ireturn, [0])) rfl (hQ _ ⟨hW, A7⟩)
def F_142 (c1 : Cl) (c6 : Cl) (c7 : Cl) (c8 : Cl) (c10 : Cl) (c11 : Cl) (c13 : Cl) (d : Ad) (a0 : Nat) : Option (Int32 × Cl × Cl × Cl × Ad) :=
  F_157 c1 c8 c10 c11 a0 >>= fun r1 =>
  ((if r1 = 0 then
  some ((-1), c6, c7, c13, d)
  else
  F_66 c1 c6 c7 c8 c10 c13 d (cR c11 12 a0) (cR c11 7 a0) >>= fun r9 =>
  some (r9.1, r9.2.1, r9.2.2.1, r9.2.2.2.1, r9.2.2.2.2)) : Option (Int32 × Cl × Cl × Cl × Ad)) >>= fun (t2 : Int32 × Cl × Cl × Cl × Ad) =>
  some (t2.1, t2.2.1, t2.2.2.1, t2.2.2.2.1, t2.2.2.2.2)
set_option maxRecDepth 100000 in
set_option maxHeartbeats 4000000 in
/-- HeadCounts.first -/
theorem e_142 {D : Nat} {c0 c1 c2 c3 c4 c5 c6 c7 c8 c9 c10 c11 c12 c13 : Cl} {d : Ad} {h : UH} {a0 : Nat} {r : (Int32 × Cl × Cl × Cl × Ad)} (hD : 8 ≤ D) (hW : HW (mkw c0 c1 c2 c3 c4 c5 c6 c7 c8 c9 c10 c11 c12 c13) d h) (ha0 : aK d a0 = (0, 11, 0)) (hF : F_142 c1 c6 c7 c8 c10 c11 c13 d a0 = some r) : ∃ q, EX D 142 [.ref a0] h q ∧ q.1 = some (.int r.1) ∧ HX d (mkw c0 c1 c2 c3 c4 c5 r.2.1 r.2.2.1 c8 c9 c10 c11 c12 r.2.2.2.1) r.2.2.2.2 q.2 := by
  obtain ⟨D, rfl⟩ : ∃ E, D = E + 1 := ⟨D - 1, by omega⟩
  unfold F_142 at hF
  refine ex_in (kl := kl_142) (nL := 1) rfl (by decide +kernel) (Nat.le_of_ble_eq_true rfl) ?_
  obtain ⟨QQ, hQQ⟩ : ∃ QQ : UR → Prop, QQ = (fun q : UR => q.1 = some (.int r.1) ∧ HX d (mkw c0 c1 c2 c3 c4 c5 r.2.1 r.2.2.1 c8 c9 c10 c11 c12 r.2.2.2.1) r.2.2.2.2 q.2) := ⟨_, rfl⟩
  rw [← hQQ]
  have hQ : ∀ h' : UH, HX d (mkw c0 c1 c2 c3 c4 c5 r.2.1 r.2.2.1 c8 c9 c10 c11 c12 r.2.2.2.1) r.2.2.2.2 h' → QQ (some (.int r.1), h') := fun h' p => by rw [hQQ]; exact ⟨rfl, p⟩
  clear hQQ
  show Ends (EX D) (u_at kl_142) (0, [some (.ref a0)], [], h) QQ
  refine en_segs [(0, .aload_n 0, [])] (by decide +kernel) (y := (1, [some (.ref a0)], [.ref a0], h)) rfl ?_
  obtain ⟨r1, hr1, hF⟩ := ob_some hF
  refine en_vi (r := []) (by decide +kernel : u_at kl_142 1 = some (.invokevirtual 222, [157, 0, 11])) hW ha0 rfl rfl (Nat.le_of_ble_eq_true rfl) (e_157 (D := D) (by omega) hW ha0 hr1) (fun h' q => ?_)
  subst q
  obtain ⟨t2, hX, hK⟩ := ob_some hF
  have j3 : ∀ h : UH, HW (mkw c0 c1 c2 c3 c4 c5 t2.2.1 t2.2.2.1 c8 c9 c10 c11 c12 t2.2.2.2.1) t2.2.2.2.2 h → Adx d t2.2.2.2.2 → Ends (EX D) (u_at kl_142) (22, [some (.ref a0)], [.int t2.1], h) QQ := by
    intro h hW hX0
    have ha0 := hX0.o ha0
    have A4 := hX0
    have A5 := hX0
    have hF := hK
    obtain rfl := Option.some.inj hF
    exact en_ret (by decide +kernel : u_at kl_142 22 = some (.ireturn, [0])) rfl (hQ _ ⟨hW, A4⟩)
  have hF := hX
  refine en_if_eq (by decide +kernel : u_at kl_142 4 = some (.ifCond .eq 17, [21])) (fun b6 => ?_) (fun b6 => ?_)
  · replace hF := i_pos b6 hF
    refine en_segs [(21, .iconst (-1), [])] (by decide +kernel) (y := (22, [some (.ref a0)], [.int (-1)], h)) rfl ?_
    obtain rfl := Option.some.inj hF
    exact j3 _ hW Adx.rf
  · replace hF := i_neg b6 hF
    refine en_segs [(7, .aload_n 0, [])] (by decide +kernel) (y := (8, [some (.ref a0)], [.ref a0], h)) rfl ?_
    have k7 : aK d (cR c11 12 a0) = (0, 7, 0) := wf_obj hW ha0 (by decide) rfl
    refine en_get (by decide +kernel : u_at kl_142 8 = some (.getfield 86, [11, 12])) hW ha0 (by decide) rfl ?_
    refine en_segs [(11, .aload_n 0, [])] (by decide +kernel) (y := (12, [some (.ref a0)], [.ref a0, .ref (cR c11 12 a0)], h)) rfl ?_
    have k8 : aK d (cR c11 7 a0) = (0, 10, 0) := wf_obj hW ha0 (by decide) rfl
    refine en_get (by decide +kernel : u_at kl_142 12 = some (.getfield 52, [11, 7])) hW ha0 (by decide) rfl ?_
    obtain ⟨r9, hr9, hF⟩ := ob_some hF
    refine en_vi (r := []) (by decide +kernel : u_at kl_142 15 = some (.invokevirtual 275, [66, 1, 7])) hW k7 rfl rfl (Nat.le_of_ble_eq_true rfl) (e_66 (D := D) (by omega) hW k7 k8 hr9) (fun h q => ?_)
    obtain ⟨hW, X10⟩ := q
    have ha0 := X10.o ha0
    have k7 := X10.o k7
    have k8 := X10.o k8
    have A11 := X10
    have hW : HW (mkw c0 c1 c2 c3 c4 c5 r9.2.1 r9.2.2.1 c8 c9 c10 c11 c12 r9.2.2.2.1) r9.2.2.2.2 h := hW
    refine en_segs [(18, .goto 4, [22])] (by decide +kernel) (y := (22, [some (.ref a0)], [.int r9.1], h)) rfl ?_
    obtain rfl := Option.some.inj hF
    exact j3 _ hW A11
def F_143 (c1 : Cl) (c6 : Cl) (c7 : Cl) (c8 : Cl) (c10 : Cl) (c11 : Cl) (c13 : Cl) (d : Ad) (a0 : Nat) (p1 : Int32) : Option (Int32 × Cl × Cl × Cl × Ad) :=
  F_157 c1 c8 c10 c11 a0 >>= fun r1 =>
  if r1 = 0 then
  some ((-1), c6, c7, c13, d)
  else
  if p1 < 0 then
  some ((-1), c6, c7, c13, d)
  else
  if p1 ≤ 2 then
  F_63 c1 c6 c7 c8 c10 c13 d (cR c11 12 a0) (cR c11 7 a0) >>= fun r7 =>
  if p1 = 1 then
  some (cI r7.2.1 3 (cR c11 12 a0), r7.1, r7.2.1, r7.2.2.1, r7.2.2.2)
  else
  if (cI r7.2.1 3 (cR c11 12 a0)) = 0 then
  some ((-2), r7.1, r7.2.1, r7.2.2.1, r7.2.2.2)
  else
  ((if p1 = 0 then
  some (cI r7.2.1 4 (cR c11 12 a0))
  else
  some (cI r7.2.1 5 (cR c11 12 a0))) : Option (Int32)) >>= fun (t12 : Int32) =>
  some (t12, r7.1, r7.2.1, r7.2.2.1, r7.2.2.2)
  else
  some ((-1), c6, c7, c13, d)
set_option maxRecDepth 100000 in
set_option maxHeartbeats 4000000 in
/-- HeadCounts.next -/
theorem e_143 {D : Nat} {c0 c1 c2 c3 c4 c5 c6 c7 c8 c9 c10 c11 c12 c13 : Cl} {d : Ad} {h : UH} {a0 : Nat} {p1 : Int32} {r : (Int32 × Cl × Cl × Cl × Ad)} (hD : 7 ≤ D) (hW : HW (mkw c0 c1 c2 c3 c4 c5 c6 c7 c8 c9 c10 c11 c12 c13) d h) (ha0 : aK d a0 = (0, 11, 0)) (hF : F_143 c1 c6 c7 c8 c10 c11 c13 d a0 p1 = some r) : ∃ q, EX D 143 [.ref a0, .int p1] h q ∧ q.1 = some (.int r.1) ∧ HX d (mkw c0 c1 c2 c3 c4 c5 r.2.1 r.2.2.1 c8 c9 c10 c11 c12 r.2.2.2.1) r.2.2.2.2 q.2 := by
  obtain ⟨D, rfl⟩ : ∃ E, D = E + 1 := ⟨D - 1, by omega⟩
  unfold F_143 at hF
  refine ex_in (kl := kl_143) (nL := 2) rfl (by decide +kernel) (Nat.le_of_ble_eq_true rfl) ?_
  obtain ⟨QQ, hQQ⟩ : ∃ QQ : UR → Prop, QQ = (fun q : UR => q.1 = some (.int r.1) ∧ HX d (mkw c0 c1 c2 c3 c4 c5 r.2.1 r.2.2.1 c8 c9 c10 c11 c12 r.2.2.2.1) r.2.2.2.2 q.2) := ⟨_, rfl⟩
  rw [← hQQ]
  have hQ : ∀ h' : UH, HX d (mkw c0 c1 c2 c3 c4 c5 r.2.1 r.2.2.1 c8 c9 c10 c11 c12 r.2.2.2.1) r.2.2.2.2 h' → QQ (some (.int r.1), h') := fun h' p => by rw [hQQ]; exact ⟨rfl, p⟩
  clear hQQ
  show Ends (EX D) (u_at kl_143) (0, [some (.ref a0), some (.int p1)], [], h) QQ
  refine en_segs [(0, .aload_n 0, [])] (by decide +kernel) (y := (1, [some (.ref a0), some (.int p1)], [.ref a0], h)) rfl ?_
  obtain ⟨r1, hr1, hF⟩ := ob_some hF
  refine en_vi (r := []) (by decide +kernel : u_at kl_143 1 = some (.invokevirtual 222, [157, 0, 11])) hW ha0 rfl rfl (Nat.le_of_ble_eq_true rfl) (e_157 (D := D) (by omega) hW ha0 hr1) (fun h' q => ?_)
  subst q
  refine en_if_eq (by decide +kernel : u_at kl_143 4 = some (.ifCond .eq 12, [16])) (fun b2 => ?_) (fun b2 => ?_)
  · replace hF := i_pos b2 hF
    refine en_segs [(16, .iconst (-1), [])] (by decide +kernel) (y := (17, [some (.ref a0), some (.int p1)], [.int (-1)], h)) rfl ?_
    obtain rfl := Option.some.inj hF
    exact en_ret (by decide +kernel : u_at kl_143 17 = some (.ireturn, [0])) rfl (hQ _ ⟨hW, Adx.rf⟩)
  · replace hF := i_neg b2 hF
    refine en_segs [(7, .iload_n 1, [])] (by decide +kernel) (y := (8, [some (.ref a0), some (.int p1)], [.int p1], h)) rfl ?_
    refine en_if_lt (by decide +kernel : u_at kl_143 8 = some (.ifCond .lt 8, [16])) (fun b3 => ?_) (fun b3 => ?_)
    · replace hF := i_pos b3 hF
      refine en_segs [(16, .iconst (-1), [])] (by decide +kernel) (y := (17, [some (.ref a0), some (.int p1)], [.int (-1)], h)) rfl ?_
      obtain rfl := Option.some.inj hF
      exact en_ret (by decide +kernel : u_at kl_143 17 = some (.ireturn, [0])) rfl (hQ _ ⟨hW, Adx.rf⟩)
    · replace hF := i_neg b3 hF
      refine en_segs [(11, .iload_n 1, []), (12, .iconst 2, [])] (by decide +kernel) (y := (13, [some (.ref a0), some (.int p1)], [.int 2, .int p1], h)) rfl ?_
      refine en_ic_le (by decide +kernel : u_at kl_143 13 = some (.if_icmp .le 5, [18])) (fun b4 => ?_) (fun b4 => ?_)
      · replace hF := i_pos b4 hF
        refine en_segs [(18, .aload_n 0, [])] (by decide +kernel) (y := (19, [some (.ref a0), some (.int p1)], [.ref a0], h)) rfl ?_
        have k5 : aK d (cR c11 12 a0) = (0, 7, 0) := wf_obj hW ha0 (by decide) rfl
        refine en_get (by decide +kernel : u_at kl_143 19 = some (.getfield 86, [11, 12])) hW ha0 (by decide) rfl ?_
        refine en_segs [(22, .aload_n 0, [])] (by decide +kernel) (y := (23, [some (.ref a0), some (.int p1)], [.ref a0, .ref (cR c11 12 a0)], h)) rfl ?_
        have k6 : aK d (cR c11 7 a0) = (0, 10, 0) := wf_obj hW ha0 (by decide) rfl
        refine en_get (by decide +kernel : u_at kl_143 23 = some (.getfield 52, [11, 7])) hW ha0 (by decide) rfl ?_
        obtain ⟨r7, hr7, hF⟩ := ob_some hF
        refine en_vv (r := []) (by decide +kernel : u_at kl_143 26 = some (.invokevirtual 264, [63, 1, 7])) hW k5 rfl rfl (Nat.le_of_ble_eq_true rfl) (e_63 (D := D) (by omega) hW k5 k6 hr7) (fun h q => ?_)
        obtain ⟨hW, X8⟩ := q
        have ha0 := X8.o ha0
        have k5 := X8.o k5
        have k6 := X8.o k6
        have A9 := X8
        have hW : HW (mkw c0 c1 c2 c3 c4 c5 r7.1 r7.2.1 c8 c9 c10 c11 c12 r7.2.2.1) r7.2.2.2 h := hW
        refine en_segs [(29, .iload_n 1, []), (30, .iconst 1, [])] (by decide +kernel) (y := (31, [some (.ref a0), some (.int p1)], [.int 1, .int p1], h)) rfl ?_
        refine en_ic_ne (by decide +kernel : u_at kl_143 31 = some (.if_icmp .ne 11, [42])) (fun b10 => ?_) (fun b10 => ?_)
        · replace hF := i_pos b10 hF
          refine en_segs [(34, .aload_n 0, [])] (by decide +kernel) (y := (35, [some (.ref a0), some (.int p1)], [.ref a0], h)) rfl ?_
          refine en_get (by decide +kernel : u_at kl_143 35 = some (.getfield 86, [11, 12])) hW ha0 (by decide) rfl ?_
          refine en_get (by decide +kernel : u_at kl_143 38 = some (.getfield 279, [7, 3])) hW k5 (by decide) rfl ?_
          obtain rfl := Option.some.inj hF
          exact en_ret (by decide +kernel : u_at kl_143 41 = some (.ireturn, [0])) rfl (hQ _ ⟨hW, A9⟩)
        · replace hF := i_neg b10 hF
          refine en_segs [(42, .aload_n 0, [])] (by decide +kernel) (y := (43, [some (.ref a0), some (.int p1)], [.ref a0], h)) rfl ?_
          refine en_get (by decide +kernel : u_at kl_143 43 = some (.getfield 86, [11, 12])) hW ha0 (by decide) rfl ?_
          refine en_get (by decide +kernel : u_at kl_143 46 = some (.getfield 279, [7, 3])) hW k5 (by decide) rfl ?_
          refine en_if_ne (by decide +kernel : u_at kl_143 49 = some (.ifCond .ne 6, [55])) (fun b11 => ?_) (fun b11 => ?_)
          · replace hF := i_pos b11 hF
            refine en_segs [(52, .bipush (-2), [])] (by decide +kernel) (y := (54, [some (.ref a0), some (.int p1)], [.int (-2)], h)) rfl ?_
            obtain rfl := Option.some.inj hF
            exact en_ret (by decide +kernel : u_at kl_143 54 = some (.ireturn, [0])) rfl (hQ _ ⟨hW, A9⟩)
          · replace hF := i_neg b11 hF
            refine en_segs [(55, .iload_n 1, [])] (by decide +kernel) (y := (56, [some (.ref a0), some (.int p1)], [.int p1], h)) rfl ?_
            obtain ⟨t12, hX, hK⟩ := ob_some hF
            have j13 : ∀ h : UH, HW (mkw c0 c1 c2 c3 c4 c5 r7.1 r7.2.1 c8 c9 c10 c11 c12 r7.2.2.1) r7.2.2.2 h → Ends (EX D) (u_at kl_143) (76, [some (.ref a0), some (.int p1)], [.int t12], h) QQ := by
              intro h hW
              have hF := hK
              obtain rfl := Option.some.inj hF
              exact en_ret (by decide +kernel : u_at kl_143 76 = some (.ireturn, [0])) rfl (hQ _ ⟨hW, A9⟩)
            have hF := hX
            refine en_if_ne (by decide +kernel : u_at kl_143 56 = some (.ifCond .ne 13, [69])) (fun b14 => ?_) (fun b14 => ?_)
            · replace hF := i_pos b14 hF
              refine en_segs [(59, .aload_n 0, [])] (by decide +kernel) (y := (60, [some (.ref a0), some (.int p1)], [.ref a0], h)) rfl ?_
              refine en_get (by decide +kernel : u_at kl_143 60 = some (.getfield 86, [11, 12])) hW ha0 (by decide) rfl ?_
              refine en_get (by decide +kernel : u_at kl_143 63 = some (.getfield 282, [7, 4])) hW k5 (by decide) rfl ?_
              refine en_segs [(66, .goto 10, [76])] (by decide +kernel) (y := (76, [some (.ref a0), some (.int p1)], [.int (cI r7.2.1 4 (cR c11 12 a0))], h)) rfl ?_
              obtain rfl := Option.some.inj hF
              exact j13 _ hW
            · replace hF := i_neg b14 hF
              refine en_segs [(69, .aload_n 0, [])] (by decide +kernel) (y := (70, [some (.ref a0), some (.int p1)], [.ref a0], h)) rfl ?_
              refine en_get (by decide +kernel : u_at kl_143 70 = some (.getfield 86, [11, 12])) hW ha0 (by decide) rfl ?_
              refine en_get (by decide +kernel : u_at kl_143 73 = some (.getfield 285, [7, 5])) hW k5 (by decide) rfl ?_
              obtain rfl := Option.some.inj hF
              exact j13 _ hW
      · replace hF := i_neg b4 hF
        refine en_segs [(16, .iconst (-1), [])] (by decide +kernel) (y := (17, [some (.ref a0), some (.int p1)], [.int (-1)], h)) rfl ?_
        obtain rfl := Option.some.inj hF
        exact en_ret (by decide +kernel : u_at kl_143 17 = some (.ireturn, [0])) rfl (hQ _ ⟨hW, Adx.rf⟩)
def F_144 (c1 : Cl) (c6 : Cl) (c8 : Cl) (c9 : Cl) (c10 : Cl) (c11 : Cl) (a0 : Nat) (p1 : Int32) : Option (Int32 × Cl × Cl) :=
  F_157 c1 c8 c10 c11 a0 >>= fun r1 =>
  if r1 = 0 then
  some ((-1), c6, c9)
  else
  if p1 < 0 then
  some ((-1), c6, c9)
  else
  if p1 < (1 <<< ((cI c1 0 (cR c8 0 (cR c10 0 (cR c11 7 a0)))) &&& 31)) then
  F_108 c1 c6 c8 c9 (cR c11 14 a0) (cR c10 0 (cR c11 7 a0)) >>= fun r9 =>
  F_109 r9.2 (cR c11 14 a0) p1 >>= fun r10 =>
  ((if r10 = 0 then
  some 0
  else
  some 1) : Option (Int32)) >>= fun (t11 : Int32) =>
  some (t11, r9.1, r9.2)
  else
  some ((-1), c6, c9)
set_option maxRecDepth 100000 in
set_option maxHeartbeats 4000000 in
/-- HeadCounts.known -/
theorem e_144 {D : Nat} {c0 c1 c2 c3 c4 c5 c6 c7 c8 c9 c10 c11 c12 c13 : Cl} {d : Ad} {h : UH} {a0 : Nat} {p1 : Int32} {r : (Int32 × Cl × Cl)} (hD : 5 ≤ D) (hW : HW (mkw c0 c1 c2 c3 c4 c5 c6 c7 c8 c9 c10 c11 c12 c13) d h) (ha0 : aK d a0 = (0, 11, 0)) (hF : F_144 c1 c6 c8 c9 c10 c11 a0 p1 = some r) : ∃ q, EX D 144 [.ref a0, .int p1] h q ∧ q.1 = some (.int r.1) ∧ HW (mkw c0 c1 c2 c3 c4 c5 r.2.1 c7 c8 r.2.2 c10 c11 c12 c13) d q.2 := by
  obtain ⟨D, rfl⟩ : ∃ E, D = E + 1 := ⟨D - 1, by omega⟩
  unfold F_144 at hF
  refine ex_in (kl := kl_144) (nL := 2) rfl (by decide +kernel) (Nat.le_of_ble_eq_true rfl) ?_
  obtain ⟨QQ, hQQ⟩ : ∃ QQ : UR → Prop, QQ = (fun q : UR => q.1 = some (.int r.1) ∧ HW (mkw c0 c1 c2 c3 c4 c5 r.2.1 c7 c8 r.2.2 c10 c11 c12 c13) d q.2) := ⟨_, rfl⟩
  rw [← hQQ]
  have hQ : ∀ h' : UH, HW (mkw c0 c1 c2 c3 c4 c5 r.2.1 c7 c8 r.2.2 c10 c11 c12 c13) d h' → QQ (some (.int r.1), h') := fun h' p => by rw [hQQ]; exact ⟨rfl, p⟩
  clear hQQ
  show Ends (EX D) (u_at kl_144) (0, [some (.ref a0), some (.int p1)], [], h) QQ
  refine en_segs [(0, .aload_n 0, [])] (by decide +kernel) (y := (1, [some (.ref a0), some (.int p1)], [.ref a0], h)) rfl ?_
  obtain ⟨r1, hr1, hF⟩ := ob_some hF
  refine en_vi (r := []) (by decide +kernel : u_at kl_144 1 = some (.invokevirtual 222, [157, 0, 11])) hW ha0 rfl rfl (Nat.le_of_ble_eq_true rfl) (e_157 (D := D) (by omega) hW ha0 hr1) (fun h' q => ?_)
  subst q
  refine en_if_eq (by decide +kernel : u_at kl_144 4 = some (.ifCond .eq 26, [30])) (fun b2 => ?_) (fun b2 => ?_)
  · replace hF := i_pos b2 hF
    refine en_segs [(30, .iconst (-1), [])] (by decide +kernel) (y := (31, [some (.ref a0), some (.int p1)], [.int (-1)], h)) rfl ?_
    obtain rfl := Option.some.inj hF
    exact en_ret (by decide +kernel : u_at kl_144 31 = some (.ireturn, [0])) rfl (hQ _ hW)
  · replace hF := i_neg b2 hF
    refine en_segs [(7, .iload_n 1, [])] (by decide +kernel) (y := (8, [some (.ref a0), some (.int p1)], [.int p1], h)) rfl ?_
    refine en_if_lt (by decide +kernel : u_at kl_144 8 = some (.ifCond .lt 22, [30])) (fun b3 => ?_) (fun b3 => ?_)
    · replace hF := i_pos b3 hF
      refine en_segs [(30, .iconst (-1), [])] (by decide +kernel) (y := (31, [some (.ref a0), some (.int p1)], [.int (-1)], h)) rfl ?_
      obtain rfl := Option.some.inj hF
      exact en_ret (by decide +kernel : u_at kl_144 31 = some (.ireturn, [0])) rfl (hQ _ hW)
    · replace hF := i_neg b3 hF
      refine en_segs [(11, .iload_n 1, []), (12, .iconst 1, []), (13, .aload_n 0, [])] (by decide +kernel) (y := (14, [some (.ref a0), some (.int p1)], [.ref a0, .int 1, .int p1], h)) rfl ?_
      have k4 : aK d (cR c11 7 a0) = (0, 10, 0) := wf_obj hW ha0 (by decide) rfl
      refine en_get (by decide +kernel : u_at kl_144 14 = some (.getfield 52, [11, 7])) hW ha0 (by decide) rfl ?_
      have k5 : aK d (cR c10 0 (cR c11 7 a0)) = (0, 8, 0) := wf_obj hW k4 (by decide) rfl
      refine en_get (by decide +kernel : u_at kl_144 17 = some (.getfield 62, [10, 0])) hW k4 (by decide) rfl ?_
      have k6 : aK d (cR c8 0 (cR c10 0 (cR c11 7 a0))) = (0, 1, 0) := wf_obj hW k5 (by decide) rfl
      refine en_get (by decide +kernel : u_at kl_144 20 = some (.getfield 66, [8, 0])) hW k5 (by decide) rfl ?_
      refine en_get (by decide +kernel : u_at kl_144 23 = some (.getfield 288, [1, 0])) hW k6 (by decide) rfl ?_
      refine en_segs [(26, .ishl, [])] (by decide +kernel) (y := (27, [some (.ref a0), some (.int p1)], [.int (1 <<< ((cI c1 0 (cR c8 0 (cR c10 0 (cR c11 7 a0)))) &&& 31)), .int p1], h)) rfl ?_
      refine en_ic_lt (by decide +kernel : u_at kl_144 27 = some (.if_icmp .lt 5, [32])) (fun b7 => ?_) (fun b7 => ?_)
      · replace hF := i_pos b7 hF
        refine en_segs [(32, .aload_n 0, [])] (by decide +kernel) (y := (33, [some (.ref a0), some (.int p1)], [.ref a0], h)) rfl ?_
        have k8 : aK d (cR c11 14 a0) = (0, 9, 0) := wf_obj hW ha0 (by decide) rfl
        refine en_get (by decide +kernel : u_at kl_144 33 = some (.getfield 100, [11, 14])) hW ha0 (by decide) rfl ?_
        refine en_segs [(36, .aload_n 0, [])] (by decide +kernel) (y := (37, [some (.ref a0), some (.int p1)], [.ref a0, .ref (cR c11 14 a0)], h)) rfl ?_
        refine en_get (by decide +kernel : u_at kl_144 37 = some (.getfield 52, [11, 7])) hW ha0 (by decide) rfl ?_
        refine en_get (by decide +kernel : u_at kl_144 40 = some (.getfield 62, [10, 0])) hW k4 (by decide) rfl ?_
        obtain ⟨r9, hr9, hF⟩ := ob_some hF
        refine en_vv (r := []) (by decide +kernel : u_at kl_144 43 = some (.invokevirtual 291, [108, 1, 9])) hW k8 rfl rfl (Nat.le_of_ble_eq_true rfl) (e_108 (D := D) (by omega) hW k8 k5 hr9) (fun h hW => ?_)
        have hW : HW (mkw c0 c1 c2 c3 c4 c5 r9.1 c7 c8 r9.2 c10 c11 c12 c13) d h := hW
        refine en_segs [(46, .aload_n 0, [])] (by decide +kernel) (y := (47, [some (.ref a0), some (.int p1)], [.ref a0], h)) rfl ?_
        refine en_get (by decide +kernel : u_at kl_144 47 = some (.getfield 100, [11, 14])) hW ha0 (by decide) rfl ?_
        refine en_segs [(50, .iload_n 1, [])] (by decide +kernel) (y := (51, [some (.ref a0), some (.int p1)], [.int p1, .ref (cR c11 14 a0)], h)) rfl ?_
        obtain ⟨r10, hr10, hF⟩ := ob_some hF
        refine en_vi (r := []) (by decide +kernel : u_at kl_144 51 = some (.invokevirtual 295, [109, 1, 9])) hW k8 rfl rfl (Nat.le_of_ble_eq_true rfl) (e_109 (D := D) (by omega) hW k8 hr10) (fun h' q => ?_)
        subst q
        obtain ⟨t11, hX, hK⟩ := ob_some hF
        have j12 : ∀ h : UH, HW (mkw c0 c1 c2 c3 c4 c5 r9.1 c7 c8 r9.2 c10 c11 c12 c13) d h → Ends (EX D) (u_at kl_144) (62, [some (.ref a0), some (.int p1)], [.int t11], h) QQ := by
          intro h hW
          have hF := hK
          obtain rfl := Option.some.inj hF
          exact en_ret (by decide +kernel : u_at kl_144 62 = some (.ireturn, [0])) rfl (hQ _ hW)
        have hF := hX
        refine en_if_eq (by decide +kernel : u_at kl_144 54 = some (.ifCond .eq 7, [61])) (fun b13 => ?_) (fun b13 => ?_)
        · replace hF := i_pos b13 hF
          refine en_segs [(61, .iconst 0, [])] (by decide +kernel) (y := (62, [some (.ref a0), some (.int p1)], [.int 0], h)) rfl ?_
          obtain rfl := Option.some.inj hF
          exact j12 _ hW
        · replace hF := i_neg b13 hF
          refine en_segs [(57, .iconst 1, []), (58, .goto 4, [62])] (by decide +kernel) (y := (62, [some (.ref a0), some (.int p1)], [.int 1], h)) rfl ?_
          obtain rfl := Option.some.inj hF
          exact j12 _ hW
      · replace hF := i_neg b7 hF
        refine en_segs [(30, .iconst (-1), [])] (by decide +kernel) (y := (31, [some (.ref a0), some (.int p1)], [.int (-1)], h)) rfl ?_
        obtain rfl := Option.some.inj hF
        exact en_ret (by decide +kernel : u_at kl_144 31 = some (.ireturn, [0])) rfl (hQ _ hW)
def F_145 (c1 : Cl) (c6 : Cl) (c8 : Cl) (c9 : Cl) (c10 : Cl) (c11 : Cl) (a0 : Nat) : Option (Int32 × Cl × Cl) :=
  F_157 c1 c8 c10 c11 a0 >>= fun r1 =>
  if r1 = 0 then
  some ((-1), c6, c9)
  else
  F_108 c1 c6 c8 c9 (cR c11 14 a0) (cR c10 0 (cR c11 7 a0)) >>= fun r6 =>
  F_111 r6.1 r6.2 (cR c11 14 a0) >>= fun r7 =>
  some (r7, r6.1, r6.2)
set_option maxRecDepth 100000 in
set_option maxHeartbeats 4000000 in
/-- HeadCounts.watch -/
theorem e_145 {D : Nat} {c0 c1 c2 c3 c4 c5 c6 c7 c8 c9 c10 c11 c12 c13 : Cl} {d : Ad} {h : UH} {a0 : Nat} {r : (Int32 × Cl × Cl)} (hD : 5 ≤ D) (hW : HW (mkw c0 c1 c2 c3 c4 c5 c6 c7 c8 c9 c10 c11 c12 c13) d h) (ha0 : aK d a0 = (0, 11, 0)) (hF : F_145 c1 c6 c8 c9 c10 c11 a0 = some r) : ∃ q, EX D 145 [.ref a0] h q ∧ q.1 = some (.int r.1) ∧ HW (mkw c0 c1 c2 c3 c4 c5 r.2.1 c7 c8 r.2.2 c10 c11 c12 c13) d q.2 := by
  obtain ⟨D, rfl⟩ : ∃ E, D = E + 1 := ⟨D - 1, by omega⟩
  unfold F_145 at hF
  refine ex_in (kl := kl_145) (nL := 1) rfl (by decide +kernel) (Nat.le_of_ble_eq_true rfl) ?_
  obtain ⟨QQ, hQQ⟩ : ∃ QQ : UR → Prop, QQ = (fun q : UR => q.1 = some (.int r.1) ∧ HW (mkw c0 c1 c2 c3 c4 c5 r.2.1 c7 c8 r.2.2 c10 c11 c12 c13) d q.2) := ⟨_, rfl⟩
  rw [← hQQ]
  have hQ : ∀ h' : UH, HW (mkw c0 c1 c2 c3 c4 c5 r.2.1 c7 c8 r.2.2 c10 c11 c12 c13) d h' → QQ (some (.int r.1), h') := fun h' p => by rw [hQQ]; exact ⟨rfl, p⟩
  clear hQQ
  show Ends (EX D) (u_at kl_145) (0, [some (.ref a0)], [], h) QQ
  refine en_segs [(0, .aload_n 0, [])] (by decide +kernel) (y := (1, [some (.ref a0)], [.ref a0], h)) rfl ?_
  obtain ⟨r1, hr1, hF⟩ := ob_some hF
  refine en_vi (r := []) (by decide +kernel : u_at kl_145 1 = some (.invokevirtual 222, [157, 0, 11])) hW ha0 rfl rfl (Nat.le_of_ble_eq_true rfl) (e_157 (D := D) (by omega) hW ha0 hr1) (fun h' q => ?_)
  subst q
  refine en_if_ne (by decide +kernel : u_at kl_145 4 = some (.ifCond .ne 5, [9])) (fun b2 => ?_) (fun b2 => ?_)
  · replace hF := i_pos b2 hF
    refine en_segs [(7, .iconst (-1), [])] (by decide +kernel) (y := (8, [some (.ref a0)], [.int (-1)], h)) rfl ?_
    obtain rfl := Option.some.inj hF
    exact en_ret (by decide +kernel : u_at kl_145 8 = some (.ireturn, [0])) rfl (hQ _ hW)
  · replace hF := i_neg b2 hF
    refine en_segs [(9, .aload_n 0, [])] (by decide +kernel) (y := (10, [some (.ref a0)], [.ref a0], h)) rfl ?_
    have k3 : aK d (cR c11 14 a0) = (0, 9, 0) := wf_obj hW ha0 (by decide) rfl
    refine en_get (by decide +kernel : u_at kl_145 10 = some (.getfield 100, [11, 14])) hW ha0 (by decide) rfl ?_
    refine en_segs [(13, .aload_n 0, [])] (by decide +kernel) (y := (14, [some (.ref a0)], [.ref a0, .ref (cR c11 14 a0)], h)) rfl ?_
    have k4 : aK d (cR c11 7 a0) = (0, 10, 0) := wf_obj hW ha0 (by decide) rfl
    refine en_get (by decide +kernel : u_at kl_145 14 = some (.getfield 52, [11, 7])) hW ha0 (by decide) rfl ?_
    have k5 : aK d (cR c10 0 (cR c11 7 a0)) = (0, 8, 0) := wf_obj hW k4 (by decide) rfl
    refine en_get (by decide +kernel : u_at kl_145 17 = some (.getfield 62, [10, 0])) hW k4 (by decide) rfl ?_
    obtain ⟨r6, hr6, hF⟩ := ob_some hF
    refine en_vv (r := []) (by decide +kernel : u_at kl_145 20 = some (.invokevirtual 291, [108, 1, 9])) hW k3 rfl rfl (Nat.le_of_ble_eq_true rfl) (e_108 (D := D) (by omega) hW k3 k5 hr6) (fun h hW => ?_)
    have hW : HW (mkw c0 c1 c2 c3 c4 c5 r6.1 c7 c8 r6.2 c10 c11 c12 c13) d h := hW
    refine en_segs [(23, .aload_n 0, [])] (by decide +kernel) (y := (24, [some (.ref a0)], [.ref a0], h)) rfl ?_
    refine en_get (by decide +kernel : u_at kl_145 24 = some (.getfield 100, [11, 14])) hW ha0 (by decide) rfl ?_
    obtain ⟨r7, hr7, hF⟩ := ob_some hF
    refine en_vi (r := []) (by decide +kernel : u_at kl_145 27 = some (.invokevirtual 298, [111, 0, 9])) hW k3 rfl rfl (Nat.le_of_ble_eq_true rfl) (e_111 (D := D) (by omega) hW k3 hr7) (fun h' q => ?_)
    subst q
    obtain rfl := Option.some.inj hF
    exact en_ret (by decide +kernel : u_at kl_145 30 = some (.ireturn, [0])) rfl (hQ _ hW)
def F_148 (c1 : Cl) (c6 : Cl) (c7 : Cl) (c8 : Cl) (c10 : Cl) (c11 : Cl) (c13 : Cl) (d : Ad) (a0 : Nat) (p1 : Int32) (p2 : Int32) (p3 : Int32) : Option (Int32 × Cl × Cl × Cl × Ad) :=
  F_160 c1 c8 c10 c11 a0 p1 >>= fun r1 =>
  if r1 = 0 then
  some ((-1), c6, c7, c13, d)
  else
  F_164 p2 >>= fun r3 =>
  if r3 = 0 then
  some ((-1), c6, c7, c13, d)
  else
  if p3 < 0 then
  some ((-1), c6, c7, c13, d)
  else
  if p3 ≤ 2 then
  F_74 c1 c6 c7 c8 c13 d (cR c11 12 a0) (cR c10 0 (cR c11 7 a0)) p1 p2 >>= fun r10 =>
  if p3 = 0 then
  some (cI r10.2.1 8 (cR c11 12 a0), r10.1, r10.2.1, r10.2.2.1, r10.2.2.2)
  else
  ((if p3 = 1 then
  some (cI r10.2.1 9 (cR c11 12 a0))
  else
  some (cI r10.2.1 10 (cR c11 12 a0))) : Option (Int32)) >>= fun (t14 : Int32) =>
  some (t14, r10.1, r10.2.1, r10.2.2.1, r10.2.2.2)
  else
  some ((-1), c6, c7, c13, d)
set_option maxRecDepth 100000 in
set_option maxHeartbeats 4000000 in
/-- HeadCounts.gather -/
theorem e_148 {D : Nat} {c0 c1 c2 c3 c4 c5 c6 c7 c8 c9 c10 c11 c12 c13 : Cl} {d : Ad} {h : UH} {a0 : Nat} {p1 : Int32} {p2 : Int32} {p3 : Int32} {r : (Int32 × Cl × Cl × Cl × Ad)} (hD : 6 ≤ D) (hW : HW (mkw c0 c1 c2 c3 c4 c5 c6 c7 c8 c9 c10 c11 c12 c13) d h) (ha0 : aK d a0 = (0, 11, 0)) (hF : F_148 c1 c6 c7 c8 c10 c11 c13 d a0 p1 p2 p3 = some r) : ∃ q, EX D 148 [.ref a0, .int p1, .int p2, .int p3] h q ∧ q.1 = some (.int r.1) ∧ HX d (mkw c0 c1 c2 c3 c4 c5 r.2.1 r.2.2.1 c8 c9 c10 c11 c12 r.2.2.2.1) r.2.2.2.2 q.2 := by
  obtain ⟨D, rfl⟩ : ∃ E, D = E + 1 := ⟨D - 1, by omega⟩
  unfold F_148 at hF
  refine ex_in (kl := kl_148) (nL := 4) rfl (by decide +kernel) (Nat.le_of_ble_eq_true rfl) ?_
  obtain ⟨QQ, hQQ⟩ : ∃ QQ : UR → Prop, QQ = (fun q : UR => q.1 = some (.int r.1) ∧ HX d (mkw c0 c1 c2 c3 c4 c5 r.2.1 r.2.2.1 c8 c9 c10 c11 c12 r.2.2.2.1) r.2.2.2.2 q.2) := ⟨_, rfl⟩
  rw [← hQQ]
  have hQ : ∀ h' : UH, HX d (mkw c0 c1 c2 c3 c4 c5 r.2.1 r.2.2.1 c8 c9 c10 c11 c12 r.2.2.2.1) r.2.2.2.2 h' → QQ (some (.int r.1), h') := fun h' p => by rw [hQQ]; exact ⟨rfl, p⟩
  clear hQQ
  show Ends (EX D) (u_at kl_148) (0, [some (.ref a0), some (.int p1), some (.int p2), some (.int p3)], [], h) QQ
  refine en_segs [(0, .aload_n 0, []), (1, .iload_n 1, [])] (by decide +kernel) (y := (2, [some (.ref a0), some (.int p1), some (.int p2), some (.int p3)], [.int p1, .ref a0], h)) rfl ?_
  obtain ⟨r1, hr1, hF⟩ := ob_some hF
  refine en_vi (r := []) (by decide +kernel : u_at kl_148 2 = some (.invokevirtual 161, [160, 1, 11])) hW ha0 rfl rfl (Nat.le_of_ble_eq_true rfl) (e_160 (D := D) (by omega) hW ha0 hr1) (fun h' q => ?_)
  subst q
  refine en_if_eq (by decide +kernel : u_at kl_148 5 = some (.ifCond .eq 19, [24])) (fun b2 => ?_) (fun b2 => ?_)
  · replace hF := i_pos b2 hF
    refine en_segs [(24, .iconst (-1), [])] (by decide +kernel) (y := (25, [some (.ref a0), some (.int p1), some (.int p2), some (.int p3)], [.int (-1)], h)) rfl ?_
    obtain rfl := Option.some.inj hF
    exact en_ret (by decide +kernel : u_at kl_148 25 = some (.ireturn, [0])) rfl (hQ _ ⟨hW, Adx.rf⟩)
  · replace hF := i_neg b2 hF
    refine en_segs [(8, .iload_n 2, [])] (by decide +kernel) (y := (9, [some (.ref a0), some (.int p1), some (.int p2), some (.int p3)], [.int p2], h)) rfl ?_
    obtain ⟨r3, hr3, hF⟩ := ob_some hF
    refine en_si (r := []) (by decide +kernel : u_at kl_148 9 = some (.invokestatic 255, [164, 1])) rfl rfl (Nat.le_of_ble_eq_true rfl) (e_164 (D := D) (by omega) hW hr3) (fun h' q => ?_)
    subst q
    refine en_if_eq (by decide +kernel : u_at kl_148 12 = some (.ifCond .eq 12, [24])) (fun b4 => ?_) (fun b4 => ?_)
    · replace hF := i_pos b4 hF
      refine en_segs [(24, .iconst (-1), [])] (by decide +kernel) (y := (25, [some (.ref a0), some (.int p1), some (.int p2), some (.int p3)], [.int (-1)], h)) rfl ?_
      obtain rfl := Option.some.inj hF
      exact en_ret (by decide +kernel : u_at kl_148 25 = some (.ireturn, [0])) rfl (hQ _ ⟨hW, Adx.rf⟩)
    · replace hF := i_neg b4 hF
      refine en_segs [(15, .iload_n 3, [])] (by decide +kernel) (y := (16, [some (.ref a0), some (.int p1), some (.int p2), some (.int p3)], [.int p3], h)) rfl ?_
      refine en_if_lt (by decide +kernel : u_at kl_148 16 = some (.ifCond .lt 8, [24])) (fun b5 => ?_) (fun b5 => ?_)
      · replace hF := i_pos b5 hF
        refine en_segs [(24, .iconst (-1), [])] (by decide +kernel) (y := (25, [some (.ref a0), some (.int p1), some (.int p2), some (.int p3)], [.int (-1)], h)) rfl ?_
        obtain rfl := Option.some.inj hF
        exact en_ret (by decide +kernel : u_at kl_148 25 = some (.ireturn, [0])) rfl (hQ _ ⟨hW, Adx.rf⟩)
      · replace hF := i_neg b5 hF
        refine en_segs [(19, .iload_n 3, []), (20, .iconst 2, [])] (by decide +kernel) (y := (21, [some (.ref a0), some (.int p1), some (.int p2), some (.int p3)], [.int 2, .int p3], h)) rfl ?_
        refine en_ic_le (by decide +kernel : u_at kl_148 21 = some (.if_icmp .le 5, [26])) (fun b6 => ?_) (fun b6 => ?_)
        · replace hF := i_pos b6 hF
          refine en_segs [(26, .aload_n 0, [])] (by decide +kernel) (y := (27, [some (.ref a0), some (.int p1), some (.int p2), some (.int p3)], [.ref a0], h)) rfl ?_
          have k7 : aK d (cR c11 12 a0) = (0, 7, 0) := wf_obj hW ha0 (by decide) rfl
          refine en_get (by decide +kernel : u_at kl_148 27 = some (.getfield 86, [11, 12])) hW ha0 (by decide) rfl ?_
          refine en_segs [(30, .aload_n 0, [])] (by decide +kernel) (y := (31, [some (.ref a0), some (.int p1), some (.int p2), some (.int p3)], [.ref a0, .ref (cR c11 12 a0)], h)) rfl ?_
          have k8 : aK d (cR c11 7 a0) = (0, 10, 0) := wf_obj hW ha0 (by decide) rfl
          refine en_get (by decide +kernel : u_at kl_148 31 = some (.getfield 52, [11, 7])) hW ha0 (by decide) rfl ?_
          have k9 : aK d (cR c10 0 (cR c11 7 a0)) = (0, 8, 0) := wf_obj hW k8 (by decide) rfl
          refine en_get (by decide +kernel : u_at kl_148 34 = some (.getfield 62, [10, 0])) hW k8 (by decide) rfl ?_
          refine en_segs [(37, .iload_n 1, []), (38, .iload_n 2, [])] (by decide +kernel) (y := (39, [some (.ref a0), some (.int p1), some (.int p2), some (.int p3)], [.int p2, .int p1, .ref (cR c10 0 (cR c11 7 a0)), .ref (cR c11 12 a0)], h)) rfl ?_
          obtain ⟨r10, hr10, hF⟩ := ob_some hF
          refine en_vv (r := []) (by decide +kernel : u_at kl_148 39 = some (.invokevirtual 318, [74, 3, 7])) hW k7 rfl rfl (Nat.le_of_ble_eq_true rfl) (e_74 (D := D) (by omega) hW k7 k9 hr10) (fun h q => ?_)
          obtain ⟨hW, X11⟩ := q
          have ha0 := X11.o ha0
          have k7 := X11.o k7
          have k8 := X11.o k8
          have k9 := X11.o k9
          have A12 := X11
          have hW : HW (mkw c0 c1 c2 c3 c4 c5 r10.1 r10.2.1 c8 c9 c10 c11 c12 r10.2.2.1) r10.2.2.2 h := hW
          refine en_segs [(42, .iload_n 3, [])] (by decide +kernel) (y := (43, [some (.ref a0), some (.int p1), some (.int p2), some (.int p3)], [.int p3], h)) rfl ?_
          refine en_if_ne (by decide +kernel : u_at kl_148 43 = some (.ifCond .ne 11, [54])) (fun b13 => ?_) (fun b13 => ?_)
          · replace hF := i_pos b13 hF
            refine en_segs [(46, .aload_n 0, [])] (by decide +kernel) (y := (47, [some (.ref a0), some (.int p1), some (.int p2), some (.int p3)], [.ref a0], h)) rfl ?_
            refine en_get (by decide +kernel : u_at kl_148 47 = some (.getfield 86, [11, 12])) hW ha0 (by decide) rfl ?_
            refine en_get (by decide +kernel : u_at kl_148 50 = some (.getfield 321, [7, 8])) hW k7 (by decide) rfl ?_
            obtain rfl := Option.some.inj hF
            exact en_ret (by decide +kernel : u_at kl_148 53 = some (.ireturn, [0])) rfl (hQ _ ⟨hW, A12⟩)
          · replace hF := i_neg b13 hF
            refine en_segs [(54, .iload_n 3, []), (55, .iconst 1, [])] (by decide +kernel) (y := (56, [some (.ref a0), some (.int p1), some (.int p2), some (.int p3)], [.int 1, .int p3], h)) rfl ?_
            obtain ⟨t14, hX, hK⟩ := ob_some hF
            have j15 : ∀ h : UH, HW (mkw c0 c1 c2 c3 c4 c5 r10.1 r10.2.1 c8 c9 c10 c11 c12 r10.2.2.1) r10.2.2.2 h → Ends (EX D) (u_at kl_148) (76, [some (.ref a0), some (.int p1), some (.int p2), some (.int p3)], [.int t14], h) QQ := by
              intro h hW
              have hF := hK
              obtain rfl := Option.some.inj hF
              exact en_ret (by decide +kernel : u_at kl_148 76 = some (.ireturn, [0])) rfl (hQ _ ⟨hW, A12⟩)
            have hF := hX
            refine en_ic_ne (by decide +kernel : u_at kl_148 56 = some (.if_icmp .ne 13, [69])) (fun b16 => ?_) (fun b16 => ?_)
            · replace hF := i_pos b16 hF
              refine en_segs [(59, .aload_n 0, [])] (by decide +kernel) (y := (60, [some (.ref a0), some (.int p1), some (.int p2), some (.int p3)], [.ref a0], h)) rfl ?_
              refine en_get (by decide +kernel : u_at kl_148 60 = some (.getfield 86, [11, 12])) hW ha0 (by decide) rfl ?_
              refine en_get (by decide +kernel : u_at kl_148 63 = some (.getfield 322, [7, 9])) hW k7 (by decide) rfl ?_
              refine en_segs [(66, .goto 10, [76])] (by decide +kernel) (y := (76, [some (.ref a0), some (.int p1), some (.int p2), some (.int p3)], [.int (cI r10.2.1 9 (cR c11 12 a0))], h)) rfl ?_
              obtain rfl := Option.some.inj hF
              exact j15 _ hW
            · replace hF := i_neg b16 hF
              refine en_segs [(69, .aload_n 0, [])] (by decide +kernel) (y := (70, [some (.ref a0), some (.int p1), some (.int p2), some (.int p3)], [.ref a0], h)) rfl ?_
              refine en_get (by decide +kernel : u_at kl_148 70 = some (.getfield 86, [11, 12])) hW ha0 (by decide) rfl ?_
              refine en_get (by decide +kernel : u_at kl_148 73 = some (.getfield 325, [7, 10])) hW k7 (by decide) rfl ?_
              obtain rfl := Option.some.inj hF
              exact j15 _ hW
        · replace hF := i_neg b6 hF
          refine en_segs [(24, .iconst (-1), [])] (by decide +kernel) (y := (25, [some (.ref a0), some (.int p1), some (.int p2), some (.int p3)], [.int (-1)], h)) rfl ?_
          obtain rfl := Option.some.inj hF
          exact en_ret (by decide +kernel : u_at kl_148 25 = some (.ireturn, [0])) rfl (hQ _ ⟨hW, Adx.rf⟩)
def F_149 (c1 : Cl) (c6 : Cl) (c8 : Cl) (c9 : Cl) (c10 : Cl) (c11 : Cl) (c13 : Cl) (d : Ad) (a0 : Nat) (p1 : Int32) (p2 : Int32) : Option (Int64 × Cl × Cl × Cl) :=
  F_159 c1 c8 c10 c11 a0 p1 >>= fun r1 =>
  if r1 = 0 then
  some ((-1), c6, c9, c13)
  else
  if p2 < 0 then
  some ((-1), c6, c9, c13)
  else
  if p2 ≤ 12 then
  F_113 c1 c6 c8 c9 c13 d (cR c11 14 a0) (cR c10 0 (cR c11 7 a0)) p1 p2 >>= fun r8 =>
  some (r8.1, r8.2.1, r8.2.2.1, r8.2.2.2)
  else
  some ((-1), c6, c9, c13)
set_option maxRecDepth 100000 in
set_option maxHeartbeats 4000000 in
/-- HeadCounts.messages -/
theorem e_149 {D : Nat} {c0 c1 c2 c3 c4 c5 c6 c7 c8 c9 c10 c11 c12 c13 : Cl} {d : Ad} {h : UH} {a0 : Nat} {p1 : Int32} {p2 : Int32} {r : (Int64 × Cl × Cl × Cl)} (hD : 5 ≤ D) (hW : HW (mkw c0 c1 c2 c3 c4 c5 c6 c7 c8 c9 c10 c11 c12 c13) d h) (ha0 : aK d a0 = (0, 11, 0)) (hF : F_149 c1 c6 c8 c9 c10 c11 c13 d a0 p1 p2 = some r) : ∃ q, EX D 149 [.ref a0, .int p1, .int p2] h q ∧ q.1 = some (.long r.1) ∧ HW (mkw c0 c1 c2 c3 c4 c5 r.2.1 c7 c8 r.2.2.1 c10 c11 c12 r.2.2.2) d q.2 := by
  obtain ⟨D, rfl⟩ : ∃ E, D = E + 1 := ⟨D - 1, by omega⟩
  unfold F_149 at hF
  refine ex_in (kl := kl_149) (nL := 3) rfl (by decide +kernel) (Nat.le_of_ble_eq_true rfl) ?_
  obtain ⟨QQ, hQQ⟩ : ∃ QQ : UR → Prop, QQ = (fun q : UR => q.1 = some (.long r.1) ∧ HW (mkw c0 c1 c2 c3 c4 c5 r.2.1 c7 c8 r.2.2.1 c10 c11 c12 r.2.2.2) d q.2) := ⟨_, rfl⟩
  rw [← hQQ]
  have hQ : ∀ h' : UH, HW (mkw c0 c1 c2 c3 c4 c5 r.2.1 c7 c8 r.2.2.1 c10 c11 c12 r.2.2.2) d h' → QQ (some (.long r.1), h') := fun h' p => by rw [hQQ]; exact ⟨rfl, p⟩
  clear hQQ
  show Ends (EX D) (u_at kl_149) (0, [some (.ref a0), some (.int p1), some (.int p2)], [], h) QQ
  refine en_segs [(0, .aload_n 0, []), (1, .iload_n 1, [])] (by decide +kernel) (y := (2, [some (.ref a0), some (.int p1), some (.int p2)], [.int p1, .ref a0], h)) rfl ?_
  obtain ⟨r1, hr1, hF⟩ := ob_some hF
  refine en_vi (r := []) (by decide +kernel : u_at kl_149 2 = some (.invokevirtual 245, [159, 1, 11])) hW ha0 rfl rfl (Nat.le_of_ble_eq_true rfl) (e_159 (D := D) (by omega) hW ha0 hr1) (fun h' q => ?_)
  subst q
  refine en_if_eq (by decide +kernel : u_at kl_149 5 = some (.ifCond .eq 13, [18])) (fun b2 => ?_) (fun b2 => ?_)
  · replace hF := i_pos b2 hF
    refine en_segs [(18, .ldc2_w 262, [18446744073709551615])] (by decide +kernel) (y := (21, [some (.ref a0), some (.int p1), some (.int p2)], [.long (-1)], h)) rfl ?_
    obtain rfl := Option.some.inj hF
    exact en_ret (by decide +kernel : u_at kl_149 21 = some (.lreturn, [])) rfl (hQ _ hW)
  · replace hF := i_neg b2 hF
    refine en_segs [(8, .iload_n 2, [])] (by decide +kernel) (y := (9, [some (.ref a0), some (.int p1), some (.int p2)], [.int p2], h)) rfl ?_
    refine en_if_lt (by decide +kernel : u_at kl_149 9 = some (.ifCond .lt 9, [18])) (fun b3 => ?_) (fun b3 => ?_)
    · replace hF := i_pos b3 hF
      refine en_segs [(18, .ldc2_w 262, [18446744073709551615])] (by decide +kernel) (y := (21, [some (.ref a0), some (.int p1), some (.int p2)], [.long (-1)], h)) rfl ?_
      obtain rfl := Option.some.inj hF
      exact en_ret (by decide +kernel : u_at kl_149 21 = some (.lreturn, [])) rfl (hQ _ hW)
    · replace hF := i_neg b3 hF
      refine en_segs [(12, .iload_n 2, []), (13, .bipush 12, [])] (by decide +kernel) (y := (15, [some (.ref a0), some (.int p1), some (.int p2)], [.int 12, .int p2], h)) rfl ?_
      refine en_ic_le (by decide +kernel : u_at kl_149 15 = some (.if_icmp .le 7, [22])) (fun b4 => ?_) (fun b4 => ?_)
      · replace hF := i_pos b4 hF
        refine en_segs [(22, .aload_n 0, [])] (by decide +kernel) (y := (23, [some (.ref a0), some (.int p1), some (.int p2)], [.ref a0], h)) rfl ?_
        have k5 : aK d (cR c11 14 a0) = (0, 9, 0) := wf_obj hW ha0 (by decide) rfl
        refine en_get (by decide +kernel : u_at kl_149 23 = some (.getfield 100, [11, 14])) hW ha0 (by decide) rfl ?_
        refine en_segs [(26, .aload_n 0, [])] (by decide +kernel) (y := (27, [some (.ref a0), some (.int p1), some (.int p2)], [.ref a0, .ref (cR c11 14 a0)], h)) rfl ?_
        have k6 : aK d (cR c11 7 a0) = (0, 10, 0) := wf_obj hW ha0 (by decide) rfl
        refine en_get (by decide +kernel : u_at kl_149 27 = some (.getfield 52, [11, 7])) hW ha0 (by decide) rfl ?_
        have k7 : aK d (cR c10 0 (cR c11 7 a0)) = (0, 8, 0) := wf_obj hW k6 (by decide) rfl
        refine en_get (by decide +kernel : u_at kl_149 30 = some (.getfield 62, [10, 0])) hW k6 (by decide) rfl ?_
        refine en_segs [(33, .iload_n 1, []), (34, .iload_n 2, [])] (by decide +kernel) (y := (35, [some (.ref a0), some (.int p1), some (.int p2)], [.int p2, .int p1, .ref (cR c10 0 (cR c11 7 a0)), .ref (cR c11 14 a0)], h)) rfl ?_
        obtain ⟨r8, hr8, hF⟩ := ob_some hF
        refine en_vl (r := []) (by decide +kernel : u_at kl_149 35 = some (.invokevirtual 328, [113, 3, 9])) hW k5 rfl rfl (Nat.le_of_ble_eq_true rfl) (e_113 (D := D) (by omega) hW k5 k7 hr8) (fun h hW => ?_)
        have hW : HW (mkw c0 c1 c2 c3 c4 c5 r8.2.1 c7 c8 r8.2.2.1 c10 c11 c12 r8.2.2.2) d h := hW
        obtain rfl := Option.some.inj hF
        exact en_ret (by decide +kernel : u_at kl_149 38 = some (.lreturn, [])) rfl (hQ _ hW)
      · replace hF := i_neg b4 hF
        refine en_segs [(18, .ldc2_w 262, [18446744073709551615])] (by decide +kernel) (y := (21, [some (.ref a0), some (.int p1), some (.int p2)], [.long (-1)], h)) rfl ?_
        obtain rfl := Option.some.inj hF
        exact en_ret (by decide +kernel : u_at kl_149 21 = some (.lreturn, [])) rfl (hQ _ hW)
def F_150 (c1 : Cl) (c6 : Cl) (c8 : Cl) (c9 : Cl) (c10 : Cl) (c11 : Cl) (a0 : Nat) (p1 : Int32) : Option (Int32 × Cl) :=
  F_157 c1 c8 c10 c11 a0 >>= fun r1 =>
  if r1 = 0 then
  some ((-1), c6)
  else
  if p1 < 0 then
  some ((-1), c6)
  else
  if p1 ≤ 1 then
  ((if p1 = 0 then
  some 1
  else
  some 0) : Option (Int32)) >>= fun (t8 : Int32) =>
  F_112 c1 c6 c8 c9 (cR c11 14 a0) (cR c10 0 (cR c11 7 a0)) t8 >>= fun r10 =>
  some (r10.1, r10.2)
  else
  some ((-1), c6)
set_option maxRecDepth 100000 in
set_option maxHeartbeats 4000000 in
/-- HeadCounts.swaps -/
theorem e_150 {D : Nat} {c0 c1 c2 c3 c4 c5 c6 c7 c8 c9 c10 c11 c12 c13 : Cl} {d : Ad} {h : UH} {a0 : Nat} {p1 : Int32} {r : (Int32 × Cl)} (hD : 5 ≤ D) (hW : HW (mkw c0 c1 c2 c3 c4 c5 c6 c7 c8 c9 c10 c11 c12 c13) d h) (ha0 : aK d a0 = (0, 11, 0)) (hF : F_150 c1 c6 c8 c9 c10 c11 a0 p1 = some r) : ∃ q, EX D 150 [.ref a0, .int p1] h q ∧ q.1 = some (.int r.1) ∧ HW (mkw c0 c1 c2 c3 c4 c5 r.2 c7 c8 c9 c10 c11 c12 c13) d q.2 := by
  obtain ⟨D, rfl⟩ : ∃ E, D = E + 1 := ⟨D - 1, by omega⟩
  unfold F_150 at hF
  refine ex_in (kl := kl_150) (nL := 2) rfl (by decide +kernel) (Nat.le_of_ble_eq_true rfl) ?_
  obtain ⟨QQ, hQQ⟩ : ∃ QQ : UR → Prop, QQ = (fun q : UR => q.1 = some (.int r.1) ∧ HW (mkw c0 c1 c2 c3 c4 c5 r.2 c7 c8 c9 c10 c11 c12 c13) d q.2) := ⟨_, rfl⟩
  rw [← hQQ]
  have hQ : ∀ h' : UH, HW (mkw c0 c1 c2 c3 c4 c5 r.2 c7 c8 c9 c10 c11 c12 c13) d h' → QQ (some (.int r.1), h') := fun h' p => by rw [hQQ]; exact ⟨rfl, p⟩
  clear hQQ
  show Ends (EX D) (u_at kl_150) (0, [some (.ref a0), some (.int p1)], [], h) QQ
  refine en_segs [(0, .aload_n 0, [])] (by decide +kernel) (y := (1, [some (.ref a0), some (.int p1)], [.ref a0], h)) rfl ?_
  obtain ⟨r1, hr1, hF⟩ := ob_some hF
  refine en_vi (r := []) (by decide +kernel : u_at kl_150 1 = some (.invokevirtual 222, [157, 0, 11])) hW ha0 rfl rfl (Nat.le_of_ble_eq_true rfl) (e_157 (D := D) (by omega) hW ha0 hr1) (fun h' q => ?_)
  subst q
  refine en_if_eq (by decide +kernel : u_at kl_150 4 = some (.ifCond .eq 12, [16])) (fun b2 => ?_) (fun b2 => ?_)
  · replace hF := i_pos b2 hF
    refine en_segs [(16, .iconst (-1), [])] (by decide +kernel) (y := (17, [some (.ref a0), some (.int p1)], [.int (-1)], h)) rfl ?_
    obtain rfl := Option.some.inj hF
    exact en_ret (by decide +kernel : u_at kl_150 17 = some (.ireturn, [0])) rfl (hQ _ hW)
  · replace hF := i_neg b2 hF
    refine en_segs [(7, .iload_n 1, [])] (by decide +kernel) (y := (8, [some (.ref a0), some (.int p1)], [.int p1], h)) rfl ?_
    refine en_if_lt (by decide +kernel : u_at kl_150 8 = some (.ifCond .lt 8, [16])) (fun b3 => ?_) (fun b3 => ?_)
    · replace hF := i_pos b3 hF
      refine en_segs [(16, .iconst (-1), [])] (by decide +kernel) (y := (17, [some (.ref a0), some (.int p1)], [.int (-1)], h)) rfl ?_
      obtain rfl := Option.some.inj hF
      exact en_ret (by decide +kernel : u_at kl_150 17 = some (.ireturn, [0])) rfl (hQ _ hW)
    · replace hF := i_neg b3 hF
      refine en_segs [(11, .iload_n 1, []), (12, .iconst 1, [])] (by decide +kernel) (y := (13, [some (.ref a0), some (.int p1)], [.int 1, .int p1], h)) rfl ?_
      refine en_ic_le (by decide +kernel : u_at kl_150 13 = some (.if_icmp .le 5, [18])) (fun b4 => ?_) (fun b4 => ?_)
      · replace hF := i_pos b4 hF
        refine en_segs [(18, .aload_n 0, [])] (by decide +kernel) (y := (19, [some (.ref a0), some (.int p1)], [.ref a0], h)) rfl ?_
        have k5 : aK d (cR c11 14 a0) = (0, 9, 0) := wf_obj hW ha0 (by decide) rfl
        refine en_get (by decide +kernel : u_at kl_150 19 = some (.getfield 100, [11, 14])) hW ha0 (by decide) rfl ?_
        refine en_segs [(22, .aload_n 0, [])] (by decide +kernel) (y := (23, [some (.ref a0), some (.int p1)], [.ref a0, .ref (cR c11 14 a0)], h)) rfl ?_
        have k6 : aK d (cR c11 7 a0) = (0, 10, 0) := wf_obj hW ha0 (by decide) rfl
        refine en_get (by decide +kernel : u_at kl_150 23 = some (.getfield 52, [11, 7])) hW ha0 (by decide) rfl ?_
        have k7 : aK d (cR c10 0 (cR c11 7 a0)) = (0, 8, 0) := wf_obj hW k6 (by decide) rfl
        refine en_get (by decide +kernel : u_at kl_150 26 = some (.getfield 62, [10, 0])) hW k6 (by decide) rfl ?_
        refine en_segs [(29, .iload_n 1, [])] (by decide +kernel) (y := (30, [some (.ref a0), some (.int p1)], [.int p1, .ref (cR c10 0 (cR c11 7 a0)), .ref (cR c11 14 a0)], h)) rfl ?_
        obtain ⟨t8, hX, hK⟩ := ob_some hF
        have j9 : ∀ h : UH, HW (mkw c0 c1 c2 c3 c4 c5 c6 c7 c8 c9 c10 c11 c12 c13) d h → Ends (EX D) (u_at kl_150) (38, [some (.ref a0), some (.int p1)], [.int t8, .ref (cR c10 0 (cR c11 7 a0)), .ref (cR c11 14 a0)], h) QQ := by
          intro h hW
          have hF := hK
          obtain ⟨r10, hr10, hF⟩ := ob_some hF
          refine en_vi (r := []) (by decide +kernel : u_at kl_150 38 = some (.invokevirtual 332, [112, 2, 9])) hW k5 rfl rfl (Nat.le_of_ble_eq_true rfl) (e_112 (D := D) (by omega) hW k5 k7 hr10) (fun h hW => ?_)
          have hW : HW (mkw c0 c1 c2 c3 c4 c5 r10.2 c7 c8 c9 c10 c11 c12 c13) d h := hW
          obtain rfl := Option.some.inj hF
          exact en_ret (by decide +kernel : u_at kl_150 41 = some (.ireturn, [0])) rfl (hQ _ hW)
        have hF := hX
        refine en_if_ne (by decide +kernel : u_at kl_150 30 = some (.ifCond .ne 7, [37])) (fun b11 => ?_) (fun b11 => ?_)
        · replace hF := i_pos b11 hF
          refine en_segs [(33, .iconst 1, []), (34, .goto 4, [38])] (by decide +kernel) (y := (38, [some (.ref a0), some (.int p1)], [.int 1, .ref (cR c10 0 (cR c11 7 a0)), .ref (cR c11 14 a0)], h)) rfl ?_
          obtain rfl := Option.some.inj hF
          exact j9 _ hW
        · replace hF := i_neg b11 hF
          refine en_segs [(37, .iconst 0, [])] (by decide +kernel) (y := (38, [some (.ref a0), some (.int p1)], [.int 0, .ref (cR c10 0 (cR c11 7 a0)), .ref (cR c11 14 a0)], h)) rfl ?_
          obtain rfl := Option.some.inj hF
          exact j9 _ hW
      · replace hF := i_neg b4 hF
        refine en_segs [(16, .iconst (-1), [])] (by decide +kernel) (y := (17, [some (.ref a0), some (.int p1)], [.int (-1)], h)) rfl ?_
        obtain rfl := Option.some.inj hF
        exact en_ret (by decide +kernel : u_at kl_150 17 = some (.ireturn, [0])) rfl (hQ _ hW)
def F_151 (c10 : Cl) (c11 : Cl) (a0 : Nat) (p1 : Int32) : Option (Int32 × Cl) :=
  if 0 ≤ p1 then
  some (sI c10 4 (cR c11 7 a0) p1) >>= fun c10_3 =>
  some (cI c10 4 (cR c11 7 a0), c10_3)
  else
  some ((-1), c10)
set_option maxRecDepth 100000 in
set_option maxHeartbeats 4000000 in
/-- HeadCounts.seed -/
theorem e_151 {D : Nat} {c0 c1 c2 c3 c4 c5 c6 c7 c8 c9 c10 c11 c12 c13 : Cl} {d : Ad} {h : UH} {a0 : Nat} {p1 : Int32} {r : (Int32 × Cl)} (hD : 1 ≤ D) (hW : HW (mkw c0 c1 c2 c3 c4 c5 c6 c7 c8 c9 c10 c11 c12 c13) d h) (ha0 : aK d a0 = (0, 11, 0)) (hF : F_151 c10 c11 a0 p1 = some r) : ∃ q, EX D 151 [.ref a0, .int p1] h q ∧ q.1 = some (.int r.1) ∧ HW (mkw c0 c1 c2 c3 c4 c5 c6 c7 c8 c9 r.2 c11 c12 c13) d q.2 := by
  obtain ⟨D, rfl⟩ : ∃ E, D = E + 1 := ⟨D - 1, by omega⟩
  unfold F_151 at hF
  refine ex_in (kl := kl_151) (nL := 3) rfl (by decide +kernel) (Nat.le_of_ble_eq_true rfl) ?_
  obtain ⟨QQ, hQQ⟩ : ∃ QQ : UR → Prop, QQ = (fun q : UR => q.1 = some (.int r.1) ∧ HW (mkw c0 c1 c2 c3 c4 c5 c6 c7 c8 c9 r.2 c11 c12 c13) d q.2) := ⟨_, rfl⟩
  rw [← hQQ]
  have hQ : ∀ h' : UH, HW (mkw c0 c1 c2 c3 c4 c5 c6 c7 c8 c9 r.2 c11 c12 c13) d h' → QQ (some (.int r.1), h') := fun h' p => by rw [hQQ]; exact ⟨rfl, p⟩
  clear hQQ
  show Ends (EX D) (u_at kl_151) (0, [some (.ref a0), some (.int p1), none], [], h) QQ
  refine en_segs [(0, .iload_n 1, [])] (by decide +kernel) (y := (1, [some (.ref a0), some (.int p1), none], [.int p1], h)) rfl ?_
  refine en_if_ge (by decide +kernel : u_at kl_151 1 = some (.ifCond .ge 5, [6])) (fun b1 => ?_) (fun b1 => ?_)
  · replace hF := i_pos b1 hF
    refine en_segs [(6, .aload_n 0, [])] (by decide +kernel) (y := (7, [some (.ref a0), some (.int p1), none], [.ref a0], h)) rfl ?_
    have k2 : aK d (cR c11 7 a0) = (0, 10, 0) := wf_obj hW ha0 (by decide) rfl
    refine en_get (by decide +kernel : u_at kl_151 7 = some (.getfield 52, [11, 7])) hW ha0 (by decide) rfl ?_
    refine en_get (by decide +kernel : u_at kl_151 10 = some (.getfield 336, [10, 4])) hW k2 (by decide) rfl ?_
    refine en_segs [(13, .istore_n 2, []), (14, .aload_n 0, [])] (by decide +kernel) (y := (15, [some (.ref a0), some (.int p1), some (.int (cI c10 4 (cR c11 7 a0)))], [.ref a0], h)) rfl ?_
    refine en_get (by decide +kernel : u_at kl_151 15 = some (.getfield 52, [11, 7])) hW ha0 (by decide) rfl ?_
    refine en_segs [(18, .iload_n 1, [])] (by decide +kernel) (y := (19, [some (.ref a0), some (.int p1), some (.int (cI c10 4 (cR c11 7 a0)))], [.int p1, .ref (cR c11 7 a0)], h)) rfl ?_
    obtain ⟨c10_3, hc10_3, hF⟩ := ob_some hF
    refine en_putI (by decide +kernel : u_at kl_151 19 = some (.putfield 336, [10, 4, 0])) hW k2 rfl (by decide) rfl (fun h hW => ?_)
    have hW : HW (mkw c0 c1 c2 c3 c4 c5 c6 c7 c8 c9 c10_3 c11 c12 c13) d h := by rw [← Option.some.inj hc10_3]; exact hW
    refine en_segs [(22, .iload_n 2, [])] (by decide +kernel) (y := (23, [some (.ref a0), some (.int p1), some (.int (cI c10 4 (cR c11 7 a0)))], [.int (cI c10 4 (cR c11 7 a0))], h)) rfl ?_
    obtain rfl := Option.some.inj hF
    exact en_ret (by decide +kernel : u_at kl_151 23 = some (.ireturn, [0])) rfl (hQ _ hW)
  · replace hF := i_neg b1 hF
    refine en_segs [(4, .iconst (-1), [])] (by decide +kernel) (y := (5, [some (.ref a0), some (.int p1), none], [.int (-1)], h)) rfl ?_
    obtain rfl := Option.some.inj hF
    exact en_ret (by decide +kernel : u_at kl_151 5 = some (.ireturn, [0])) rfl (hQ _ hW)
def F_167 (c11 : Cl) (a0 : Nat) : Option (Int32 × Cl) :=
  some (sJ c11 10 a0 ((((cJ c11 10 a0) * 1103515245) + 12345) &&& 2147483647)) >>= fun c11_1 =>
  ldv (cJ c11_1 10 a0) 65536 >>= fun v2 =>
  some ((v2 : Int64).toInt32, c11_1)
set_option maxRecDepth 100000 in
set_option maxHeartbeats 4000000 in
/-- HeadCounts.nextDraw -/
theorem e_167 {D : Nat} {c0 c1 c2 c3 c4 c5 c6 c7 c8 c9 c10 c11 c12 c13 : Cl} {d : Ad} {h : UH} {a0 : Nat} {r : (Int32 × Cl)} (hD : 1 ≤ D) (hW : HW (mkw c0 c1 c2 c3 c4 c5 c6 c7 c8 c9 c10 c11 c12 c13) d h) (ha0 : aK d a0 = (0, 11, 0)) (hF : F_167 c11 a0 = some r) : ∃ q, EX D 167 [.ref a0] h q ∧ q.1 = some (.int r.1) ∧ HW (mkw c0 c1 c2 c3 c4 c5 c6 c7 c8 c9 c10 r.2 c12 c13) d q.2 := by
  obtain ⟨D, rfl⟩ : ∃ E, D = E + 1 := ⟨D - 1, by omega⟩
  unfold F_167 at hF
  refine ex_in (kl := kl_167) (nL := 1) rfl (by decide +kernel) (Nat.le_of_ble_eq_true rfl) ?_
  obtain ⟨QQ, hQQ⟩ : ∃ QQ : UR → Prop, QQ = (fun q : UR => q.1 = some (.int r.1) ∧ HW (mkw c0 c1 c2 c3 c4 c5 c6 c7 c8 c9 c10 r.2 c12 c13) d q.2) := ⟨_, rfl⟩
  rw [← hQQ]
  have hQ : ∀ h' : UH, HW (mkw c0 c1 c2 c3 c4 c5 c6 c7 c8 c9 c10 r.2 c12 c13) d h' → QQ (some (.int r.1), h') := fun h' p => by rw [hQQ]; exact ⟨rfl, p⟩
  clear hQQ
  show Ends (EX D) (u_at kl_167) (0, [some (.ref a0)], [], h) QQ
  refine en_segs [(0, .aload_n 0, []), (1, .aload_n 0, [])] (by decide +kernel) (y := (2, [some (.ref a0)], [.ref a0, .ref a0], h)) rfl ?_
  refine en_get (by decide +kernel : u_at kl_167 2 = some (.getfield 339, [11, 10])) hW ha0 (by decide) rfl ?_
  refine en_segs [(5, .ldc2_w 368, [1103515245]), (8, .lmul, []), (9, .ldc2_w 370, [12345]), (12, .ladd, []), (13, .ldc2_w 372, [2147483647]), (16, .land, [])] (by decide +kernel) (y := (17, [some (.ref a0)], [.long ((((cJ c11 10 a0) * 1103515245) + 12345) &&& 2147483647), .ref a0], h)) rfl ?_
  obtain ⟨c11_1, hc11_1, hF⟩ := ob_some hF
  refine en_putJ (by decide +kernel : u_at kl_167 17 = some (.putfield 339, [11, 10, 1])) hW ha0 rfl (by decide) rfl (fun h hW => ?_)
  have hW : HW (mkw c0 c1 c2 c3 c4 c5 c6 c7 c8 c9 c10 c11_1 c12 c13) d h := by rw [← Option.some.inj hc11_1]; exact hW
  refine en_segs [(20, .aload_n 0, [])] (by decide +kernel) (y := (21, [some (.ref a0)], [.ref a0], h)) rfl ?_
  refine en_get (by decide +kernel : u_at kl_167 21 = some (.getfield 339, [11, 10])) hW ha0 (by decide) rfl ?_
  refine en_segs [(24, .ldc2_w 374, [65536])] (by decide +kernel) (y := (27, [some (.ref a0)], [.long 65536, .long (cJ c11_1 10 a0)], h)) rfl ?_
  obtain ⟨v2, hv2, hF⟩ := ob_some hF
  refine en_ldiv (by decide +kernel : u_at kl_167 27 = some (.ldiv, [])) hv2 ?_
  refine en_segs [(28, .l2i, [])] (by decide +kernel) (y := (29, [some (.ref a0)], [.int ((v2 : Int64).toInt32)], h)) rfl ?_
  obtain rfl := Option.some.inj hF
  exact en_ret (by decide +kernel : u_at kl_167 29 = some (.ireturn, [0])) rfl (hQ _ hW)
def F_311 (c11 : Cl) (a0 : Nat) (p1 : Int32) : Option (Int32 × Cl) :=
  F_167 c11 a0 >>= fun r1 =>
  ((if p1 ≤ 0 then
  some 0
  else
  irm r1.1 p1 >>= fun v5 =>
  some v5) : Option (Int32)) >>= fun (t2 : Int32) =>
  some (t2, r1.2)
set_option maxRecDepth 100000 in
set_option maxHeartbeats 4000000 in
/-- HeadCounts.nextDrawBelow -/
theorem e_311 {D : Nat} {c0 c1 c2 c3 c4 c5 c6 c7 c8 c9 c10 c11 c12 c13 : Cl} {d : Ad} {h : UH} {a0 : Nat} {p1 : Int32} {r : (Int32 × Cl)} (hD : 2 ≤ D) (hW : HW (mkw c0 c1 c2 c3 c4 c5 c6 c7 c8 c9 c10 c11 c12 c13) d h) (ha0 : aK d a0 = (0, 11, 0)) (hF : F_311 c11 a0 p1 = some r) : ∃ q, EX D 311 [.ref a0, .int p1] h q ∧ q.1 = some (.int r.1) ∧ HW (mkw c0 c1 c2 c3 c4 c5 c6 c7 c8 c9 c10 r.2 c12 c13) d q.2 := by
  obtain ⟨D, rfl⟩ : ∃ E, D = E + 1 := ⟨D - 1, by omega⟩
  unfold F_311 at hF
  refine ex_in (kl := kl_311) (nL := 3) rfl (by decide +kernel) (Nat.le_of_ble_eq_true rfl) ?_
  obtain ⟨QQ, hQQ⟩ : ∃ QQ : UR → Prop, QQ = (fun q : UR => q.1 = some (.int r.1) ∧ HW (mkw c0 c1 c2 c3 c4 c5 c6 c7 c8 c9 c10 r.2 c12 c13) d q.2) := ⟨_, rfl⟩
  rw [← hQQ]
  have hQ : ∀ h' : UH, HW (mkw c0 c1 c2 c3 c4 c5 c6 c7 c8 c9 c10 r.2 c12 c13) d h' → QQ (some (.int r.1), h') := fun h' p => by rw [hQQ]; exact ⟨rfl, p⟩
  clear hQQ
  show Ends (EX D) (u_at kl_311) (0, [some (.ref a0), some (.int p1), none], [], h) QQ
  refine en_segs [(0, .aload_n 0, [])] (by decide +kernel) (y := (1, [some (.ref a0), some (.int p1), none], [.ref a0], h)) rfl ?_
  obtain ⟨r1, hr1, hF⟩ := ob_some hF
  refine en_vi (r := []) (by decide +kernel : u_at kl_311 1 = some (.invokevirtual 376, [167, 0, 11])) hW ha0 rfl rfl (Nat.le_of_ble_eq_true rfl) (e_167 (D := D) (by omega) hW ha0 hr1) (fun h hW => ?_)
  have hW : HW (mkw c0 c1 c2 c3 c4 c5 c6 c7 c8 c9 c10 r1.2 c12 c13) d h := hW
  refine en_segs [(4, .istore_n 2, []), (5, .iload_n 1, [])] (by decide +kernel) (y := (6, [some (.ref a0), some (.int p1), some (.int r1.1)], [.int p1], h)) rfl ?_
  obtain ⟨t2, hX, hK⟩ := ob_some hF
  have j3 : ∀ h : UH, HW (mkw c0 c1 c2 c3 c4 c5 c6 c7 c8 c9 c10 r1.2 c12 c13) d h → Ends (EX D) (u_at kl_311) (16, [some (.ref a0), some (.int p1), some (.int r1.1)], [.int t2], h) QQ := by
    intro h hW
    have hF := hK
    obtain rfl := Option.some.inj hF
    exact en_ret (by decide +kernel : u_at kl_311 16 = some (.ireturn, [0])) rfl (hQ _ hW)
  have hF := hX
  refine en_if_le (by decide +kernel : u_at kl_311 6 = some (.ifCond .le 9, [15])) (fun b4 => ?_) (fun b4 => ?_)
  · replace hF := i_pos b4 hF
    refine en_segs [(15, .iconst 0, [])] (by decide +kernel) (y := (16, [some (.ref a0), some (.int p1), some (.int r1.1)], [.int 0], h)) rfl ?_
    obtain rfl := Option.some.inj hF
    exact j3 _ hW
  · replace hF := i_neg b4 hF
    refine en_segs [(9, .iload_n 2, []), (10, .iload_n 1, [])] (by decide +kernel) (y := (11, [some (.ref a0), some (.int p1), some (.int r1.1)], [.int p1, .int r1.1], h)) rfl ?_
    obtain ⟨v5, hv5, hF⟩ := ob_some hF
    refine en_irem (by decide +kernel : u_at kl_311 11 = some (.irem, [])) hv5 ?_
    refine en_segs [(12, .goto 4, [16])] (by decide +kernel) (y := (16, [some (.ref a0), some (.int p1), some (.int r1.1)], [.int v5], h)) rfl ?_
    obtain rfl := Option.some.inj hF
    exact j3 _ hW
def G_168 (c1 : Cl) (c8 : Cl) (c11 : Cl) (a0 : Nat) (lab : Nat) (xs : List Int32) (ys : List Int64) (zs : List Nat) : Option (Int32 × Cl × Cl) := match lab, xs, ys, zs with
  | 0, [], [], [] =>
    F_92 c1 c8 (cR c11 9 a0) (-1) (-1) 0 >>= fun r15 =>
    some (0, r15, c11)
  | _, _, _, _ => none
set_option maxRecDepth 100000 in
set_option maxHeartbeats 4000000 in
theorem g_168 {D : Nat} (hD : 4 ≤ D + 1) {c0 c1 c2 c3 c4 c5 c6 c7 c8 c9 c10 c11 c12 c13 : Cl} {d : Ad} {a0 : Nat} (ha0 : aK d a0 = (0, 11, 0)) : ∀ (lab : Nat) (xs : List Int32) (ys : List Int64) (zs : List Nat) (r : (Int32 × Cl × Cl)), G_168 c1 c8 c11 a0 lab xs ys zs = some r →
    (∀ (_ : Unit), lab = 0 → xs = [] → ys = [] → zs = [] → ∀ h : UH, HW (mkw c0 c1 c2 c3 c4 c5 c6 c7 c8 c9 c10 c11 c12 c13) d h → ∀ QQ : UR → Prop, (∀ h' : UH, HW (mkw c0 c1 c2 c3 c4 c5 c6 c7 r.2.1 c9 c10 r.2.2 c12 c13) d h' → QQ (some (.int r.1), h')) → Ends (EX D) (u_at kl_168) (75, [some (.ref a0), none, none, none], [], h) QQ) := by
  intro lab xs ys zs r hF
  unfold G_168 at hF
  · intro _ e1 e2 e3 e4 h hW QQ hQ
    subst e1 e2 e3 e4
    refine en_segs [(75, .aload_n 0, [])] (by decide +kernel) (y := (76, [some (.ref a0), none, none, none], [.ref a0], h)) rfl ?_
    have k14 : aK d (cR c11 9 a0) = (0, 8, 0) := wf_obj hW ha0 (by decide) rfl
    refine en_get (by decide +kernel : u_at kl_168 76 = some (.getfield 71, [11, 9])) hW ha0 (by decide) rfl ?_
    refine en_segs [(79, .iconst (-1), []), (80, .iconst (-1), []), (81, .iconst 0, [])] (by decide +kernel) (y := (82, [some (.ref a0), none, none, none], [.int 0, .int (-1), .int (-1), .ref (cR c11 9 a0)], h)) rfl ?_
    obtain ⟨r15, hr15, hF⟩ := ob_some hF
    refine en_vv (r := []) (by decide +kernel : u_at kl_168 82 = some (.invokevirtual 393, [92, 3, 8])) hW k14 rfl rfl (Nat.le_of_ble_eq_true rfl) (e_92 (D := D) (by omega) hW k14 hr15) (fun h hW => ?_)
    have hW : HW (mkw c0 c1 c2 c3 c4 c5 c6 c7 r15 c9 c10 c11 c12 c13) d h := hW
    refine en_segs [(85, .iconst 0, [])] (by decide +kernel) (y := (86, [some (.ref a0), none, none, none], [.int 0], h)) rfl ?_
    obtain rfl := Option.some.inj hF
    exact en_ret (by decide +kernel : u_at kl_168 86 = some (.ireturn, [0])) rfl (hQ _ hW)
def F_168 (c1 : Cl) (c8 : Cl) (c11 : Cl) (a0 : Nat) : Option (Int32 × Cl × Cl) :=
  F_311 c11 a0 ((cI c1 2 (cR c8 0 (cR c11 9 a0))) + 1) >>= fun r3 =>
  if (cI c1 2 (cR c8 0 (cR c11 9 a0))) ≤ r3.1 then
  G_168 c1 c8 r3.2 a0 0 [] [] []
  else
  F_83 c8 (cR r3.2 9 a0) r3.1 >>= fun r6 =>
  if r6 = 0 then
  G_168 c1 c8 r3.2 a0 0 [] [] []
  else
  F_101 c1 c8 (cR r3.2 9 a0) r3.1 >>= fun r8 =>
  F_300 r8 >>= fun r9 =>
  if r9 ≤ 0 then
  G_168 c1 c8 r3.2 a0 0 [] [] []
  else
  F_311 r3.2 a0 r9 >>= fun r11 =>
  F_102 c1 c8 (cR r3.2 9 a0) r3.1 r11.1 >>= fun r12 =>
  F_92 c1 c8 (cR r3.2 9 a0) r3.1 r12 0 >>= fun r13 =>
  some (1, r13, r11.2)
set_option maxRecDepth 100000 in
set_option maxHeartbeats 4000000 in
/-- HeadCounts.passByDraw -/
theorem e_168 {D : Nat} {c0 c1 c2 c3 c4 c5 c6 c7 c8 c9 c10 c11 c12 c13 : Cl} {d : Ad} {h : UH} {a0 : Nat} {r : (Int32 × Cl × Cl)} (hD : 4 ≤ D) (hW : HW (mkw c0 c1 c2 c3 c4 c5 c6 c7 c8 c9 c10 c11 c12 c13) d h) (ha0 : aK d a0 = (0, 11, 0)) (hF : F_168 c1 c8 c11 a0 = some r) : ∃ q, EX D 168 [.ref a0] h q ∧ q.1 = some (.int r.1) ∧ HW (mkw c0 c1 c2 c3 c4 c5 c6 c7 r.2.1 c9 c10 r.2.2 c12 c13) d q.2 := by
  obtain ⟨D, rfl⟩ : ∃ E, D = E + 1 := ⟨D - 1, by omega⟩
  unfold F_168 at hF
  refine ex_in (kl := kl_168) (nL := 4) rfl (by decide +kernel) (Nat.le_of_ble_eq_true rfl) ?_
  obtain ⟨QQ, hQQ⟩ : ∃ QQ : UR → Prop, QQ = (fun q : UR => q.1 = some (.int r.1) ∧ HW (mkw c0 c1 c2 c3 c4 c5 c6 c7 r.2.1 c9 c10 r.2.2 c12 c13) d q.2) := ⟨_, rfl⟩
  rw [← hQQ]
  have hQ : ∀ h' : UH, HW (mkw c0 c1 c2 c3 c4 c5 c6 c7 r.2.1 c9 c10 r.2.2 c12 c13) d h' → QQ (some (.int r.1), h') := fun h' p => by rw [hQQ]; exact ⟨rfl, p⟩
  clear hQQ
  show Ends (EX D) (u_at kl_168) (0, [some (.ref a0), none, none, none], [], h) QQ
  refine en_segs [(0, .aload_n 0, [])] (by decide +kernel) (y := (1, [some (.ref a0), none, none, none], [.ref a0], h)) rfl ?_
  have k1 : aK d (cR c11 9 a0) = (0, 8, 0) := wf_obj hW ha0 (by decide) rfl
  refine en_get (by decide +kernel : u_at kl_168 1 = some (.getfield 71, [11, 9])) hW ha0 (by decide) rfl ?_
  have k2 : aK d (cR c8 0 (cR c11 9 a0)) = (0, 1, 0) := wf_obj hW k1 (by decide) rfl
  refine en_get (by decide +kernel : u_at kl_168 4 = some (.getfield 66, [8, 0])) hW k1 (by decide) rfl ?_
  refine en_get (by decide +kernel : u_at kl_168 7 = some (.getfield 126, [1, 2])) hW k2 (by decide) rfl ?_
  refine en_segs [(10, .istore_n 1, []), (11, .aload_n 0, []), (12, .iload_n 1, []), (13, .iconst 1, []), (14, .iadd, [])] (by decide +kernel) (y := (15, [some (.ref a0), some (.int (cI c1 2 (cR c8 0 (cR c11 9 a0)))), none, none], [.int ((cI c1 2 (cR c8 0 (cR c11 9 a0))) + 1), .ref a0], h)) rfl ?_
  obtain ⟨r3, hr3, hF⟩ := ob_some hF
  refine en_vi (r := []) (by decide +kernel : u_at kl_168 15 = some (.invokevirtual 379, [311, 1, 11])) hW ha0 rfl rfl (Nat.le_of_ble_eq_true rfl) (e_311 (D := D) (by omega) hW ha0 hr3) (fun h hW => ?_)
  have hW : HW (mkw c0 c1 c2 c3 c4 c5 c6 c7 c8 c9 c10 r3.2 c12 c13) d h := hW
  refine en_segs [(18, .istore_n 2, []), (19, .iload_n 2, []), (20, .iload_n 1, [])] (by decide +kernel) (y := (21, [some (.ref a0), some (.int (cI c1 2 (cR c8 0 (cR c11 9 a0)))), some (.int r3.1), none], [.int (cI c1 2 (cR c8 0 (cR c11 9 a0))), .int r3.1], h)) rfl ?_
  refine en_ic_ge (by decide +kernel : u_at kl_168 21 = some (.if_icmp .ge 54, [75])) (fun b4 => ?_) (fun b4 => ?_)
  · replace hF := i_pos b4 hF
    refine en_fg (fg_k (fg_d (fg_d (fg_k fg_0)))) ?_
    exact (g_168 (D := D) hD ha0 _ _ _ _ _ hF) () rfl rfl rfl rfl  _ hW _ hQ
  · replace hF := i_neg b4 hF
    refine en_segs [(24, .aload_n 0, [])] (by decide +kernel) (y := (25, [some (.ref a0), some (.int (cI c1 2 (cR c8 0 (cR c11 9 a0)))), some (.int r3.1), none], [.ref a0], h)) rfl ?_
    have k5 : aK d (cR r3.2 9 a0) = (0, 8, 0) := wf_obj hW ha0 (by decide) rfl
    refine en_get (by decide +kernel : u_at kl_168 25 = some (.getfield 71, [11, 9])) hW ha0 (by decide) rfl ?_
    refine en_segs [(28, .iload_n 2, [])] (by decide +kernel) (y := (29, [some (.ref a0), some (.int (cI c1 2 (cR c8 0 (cR c11 9 a0)))), some (.int r3.1), none], [.int r3.1, .ref (cR r3.2 9 a0)], h)) rfl ?_
    obtain ⟨r6, hr6, hF⟩ := ob_some hF
    refine en_vi (r := []) (by decide +kernel : u_at kl_168 29 = some (.invokevirtual 155, [83, 1, 8])) hW k5 rfl rfl (Nat.le_of_ble_eq_true rfl) (e_83 (D := D) (by omega) hW k5 hr6) (fun h' q => ?_)
    subst q
    refine en_if_eq (by decide +kernel : u_at kl_168 32 = some (.ifCond .eq 43, [75])) (fun b7 => ?_) (fun b7 => ?_)
    · replace hF := i_pos b7 hF
      refine en_fg (fg_k (fg_d (fg_d (fg_k fg_0)))) ?_
      exact (g_168 (D := D) hD ha0 _ _ _ _ _ hF) () rfl rfl rfl rfl  _ hW _ hQ
    · replace hF := i_neg b7 hF
      refine en_segs [(35, .aload_n 0, [])] (by decide +kernel) (y := (36, [some (.ref a0), some (.int (cI c1 2 (cR c8 0 (cR c11 9 a0)))), some (.int r3.1), none], [.ref a0], h)) rfl ?_
      refine en_get (by decide +kernel : u_at kl_168 36 = some (.getfield 71, [11, 9])) hW ha0 (by decide) rfl ?_
      refine en_segs [(39, .iload_n 2, [])] (by decide +kernel) (y := (40, [some (.ref a0), some (.int (cI c1 2 (cR c8 0 (cR c11 9 a0)))), some (.int r3.1), none], [.int r3.1, .ref (cR r3.2 9 a0)], h)) rfl ?_
      obtain ⟨r8, hr8, hF⟩ := ob_some hF
      refine en_vi (r := []) (by decide +kernel : u_at kl_168 40 = some (.invokevirtual 382, [101, 1, 8])) hW k5 rfl rfl (Nat.le_of_ble_eq_true rfl) (e_101 (D := D) (by omega) hW k5 hr8) (fun h' q => ?_)
      subst q
      obtain ⟨r9, hr9, hF⟩ := ob_some hF
      refine en_si (r := []) (by decide +kernel : u_at kl_168 43 = some (.invokestatic 385, [300, 1])) rfl rfl (Nat.le_of_ble_eq_true rfl) (e_300 (D := D) (by omega) hW hr9) (fun h' q => ?_)
      subst q
      refine en_segs [(46, .istore_n 3, []), (47, .iload_n 3, [])] (by decide +kernel) (y := (48, [some (.ref a0), some (.int (cI c1 2 (cR c8 0 (cR c11 9 a0)))), some (.int r3.1), some (.int r9)], [.int r9], h)) rfl ?_
      refine en_if_le (by decide +kernel : u_at kl_168 48 = some (.ifCond .le 27, [75])) (fun b10 => ?_) (fun b10 => ?_)
      · replace hF := i_pos b10 hF
        refine en_fg (fg_k (fg_d (fg_d (fg_d fg_0)))) ?_
        exact (g_168 (D := D) hD ha0 _ _ _ _ _ hF) () rfl rfl rfl rfl  _ hW _ hQ
      · replace hF := i_neg b10 hF
        refine en_segs [(51, .aload_n 0, [])] (by decide +kernel) (y := (52, [some (.ref a0), some (.int (cI c1 2 (cR c8 0 (cR c11 9 a0)))), some (.int r3.1), some (.int r9)], [.ref a0], h)) rfl ?_
        refine en_get (by decide +kernel : u_at kl_168 52 = some (.getfield 71, [11, 9])) hW ha0 (by decide) rfl ?_
        refine en_segs [(55, .iload_n 2, []), (56, .aload_n 0, [])] (by decide +kernel) (y := (57, [some (.ref a0), some (.int (cI c1 2 (cR c8 0 (cR c11 9 a0)))), some (.int r3.1), some (.int r9)], [.ref a0, .int r3.1, .ref (cR r3.2 9 a0)], h)) rfl ?_
        refine en_get (by decide +kernel : u_at kl_168 57 = some (.getfield 71, [11, 9])) hW ha0 (by decide) rfl ?_
        refine en_segs [(60, .iload_n 2, []), (61, .aload_n 0, []), (62, .iload_n 3, [])] (by decide +kernel) (y := (63, [some (.ref a0), some (.int (cI c1 2 (cR c8 0 (cR c11 9 a0)))), some (.int r3.1), some (.int r9)], [.int r9, .ref a0, .int r3.1, .ref (cR r3.2 9 a0), .int r3.1, .ref (cR r3.2 9 a0)], h)) rfl ?_
        obtain ⟨r11, hr11, hF⟩ := ob_some hF
        refine en_vi (r := [.int r3.1, .ref (cR r3.2 9 a0), .int r3.1, .ref (cR r3.2 9 a0)]) (by decide +kernel : u_at kl_168 63 = some (.invokevirtual 379, [311, 1, 11])) hW ha0 rfl rfl (Nat.le_of_ble_eq_true rfl) (e_311 (D := D) (by omega) hW ha0 hr11) (fun h hW => ?_)
        have hW : HW (mkw c0 c1 c2 c3 c4 c5 c6 c7 c8 c9 c10 r11.2 c12 c13) d h := hW
        obtain ⟨r12, hr12, hF⟩ := ob_some hF
        refine en_vi (r := [.int r3.1, .ref (cR r3.2 9 a0)]) (by decide +kernel : u_at kl_168 66 = some (.invokevirtual 390, [102, 2, 8])) hW k5 rfl rfl (Nat.le_of_ble_eq_true rfl) (e_102 (D := D) (by omega) hW k5 hr12) (fun h' q => ?_)
        subst q
        refine en_segs [(69, .iconst 0, [])] (by decide +kernel) (y := (70, [some (.ref a0), some (.int (cI c1 2 (cR c8 0 (cR c11 9 a0)))), some (.int r3.1), some (.int r9)], [.int 0, .int r12, .int r3.1, .ref (cR r3.2 9 a0)], h)) rfl ?_
        obtain ⟨r13, hr13, hF⟩ := ob_some hF
        refine en_vv (r := []) (by decide +kernel : u_at kl_168 70 = some (.invokevirtual 393, [92, 3, 8])) hW k5 rfl rfl (Nat.le_of_ble_eq_true rfl) (e_92 (D := D) (by omega) hW k5 hr13) (fun h hW => ?_)
        have hW : HW (mkw c0 c1 c2 c3 c4 c5 c6 c7 r13 c9 c10 r11.2 c12 c13) d h := hW
        refine en_segs [(73, .iconst 1, [])] (by decide +kernel) (y := (74, [some (.ref a0), some (.int (cI c1 2 (cR c8 0 (cR c11 9 a0)))), some (.int r3.1), some (.int r9)], [.int 1], h)) rfl ?_
        obtain rfl := Option.some.inj hF
        exact en_ret (by decide +kernel : u_at kl_168 74 = some (.ireturn, [0])) rfl (hQ _ hW)
def G_152 (c1 : Cl) (c10 : Cl) (a0 : Nat) (lab : Nat) (xs : List Int32) (ys : List Int64) (zs : List Nat) (c8 : Cl) (c11 : Cl) : Option (Int32 × Cl × Cl) := match lab, xs, ys, zs with
  | 0, [x1, x2, x3, x4, x5, x6, x7, x8], [], [] =>
    if x1 ≤ x8 then
    ((if x5 = 0 then
    some x6
    else
    some x7) : Option (Int32)) >>= fun (t14 : Int32) =>
    some (t14, c8, c11)
    else
    F_82 c8 (cR c11 9 a0) (cR c10 0 (cR c11 7 a0)) >>= fun r20 =>
    G_152 c1 c10 a0 1 [x1, x2, x3, x4, x5, x6, x7, x8, 0] [] [] r20 c11
  | 1, [x1, x2, x3, x4, x5, x6, x7, x8, x9], [], [] =>
    if x2 ≤ x9 then
    G_152 c1 c10 a0 0 [x1, x2, x3, x4, x5, x6, x7, x8 + 1] [] [] c8 c11
    else
    F_168 c1 c8 c11 a0 >>= fun r22 =>
    F_97 c1 r22.2.1 (cR r22.2.2 9 a0) x3 >>= fun r24 =>
    ((if r24 < x4 then
    some 0
    else
    some 1) : Option (Int32)) >>= fun (t25 : Int32) =>
    G_152 c1 c10 a0 1 [x1, x2, x3, x4, x5, x6 + t25, x7 + r22.1, x8, x9 + 1] [] [] r22.2.1 r22.2.2
  | _, _, _, _ => none
partial_fixpoint
set_option maxRecDepth 100000 in
set_option maxHeartbeats 4000000 in
theorem g_152 {D : Nat} (hD : 5 ≤ D + 1) {c0 c1 c2 c3 c4 c5 c6 c7 c9 c10 c12 c13 : Cl} {d : Ad} {a0 : Nat} (ha0 : aK d a0 = (0, 11, 0)) : ∀ (lab : Nat) (xs : List Int32) (ys : List Int64) (zs : List Nat) (c8 : Cl) (c11 : Cl) (r : (Int32 × Cl × Cl)), G_152 c1 c10 a0 lab xs ys zs c8 c11 = some r →
    (∀ (x1 : Int32) (x2 : Int32) (x3 : Int32) (x4 : Int32) (x5 : Int32) (x6 : Int32) (x7 : Int32) (x8 : Int32), lab = 0 → xs = [x1, x2, x3, x4, x5, x6, x7, x8] → ys = [] → zs = [] → ∀ h : UH, HW (mkw c0 c1 c2 c3 c4 c5 c6 c7 c8 c9 c10 c11 c12 c13) d h → ∀ QQ : UR → Prop, (∀ h' : UH, HW (mkw c0 c1 c2 c3 c4 c5 c6 c7 r.2.1 c9 c10 r.2.2 c12 c13) d h' → QQ (some (.int r.1), h')) → Ends (EX D) (u_at kl_152) (72, [some (.ref a0), some (.int x1), some (.int x2), some (.int x3), some (.int x4), some (.int x5), some (.int x6), some (.int x7), some (.int x8), none], [], h) QQ) ∧
    (∀ (x1 : Int32) (x2 : Int32) (x3 : Int32) (x4 : Int32) (x5 : Int32) (x6 : Int32) (x7 : Int32) (x8 : Int32) (x9 : Int32), lab = 1 → xs = [x1, x2, x3, x4, x5, x6, x7, x8, x9] → ys = [] → zs = [] → ∀ h : UH, HW (mkw c0 c1 c2 c3 c4 c5 c6 c7 c8 c9 c10 c11 c12 c13) d h → ∀ QQ : UR → Prop, (∀ h' : UH, HW (mkw c0 c1 c2 c3 c4 c5 c6 c7 r.2.1 c9 c10 r.2.2 c12 c13) d h' → QQ (some (.int r.1), h')) → Ends (EX D) (u_at kl_152) (95, [some (.ref a0), some (.int x1), some (.int x2), some (.int x3), some (.int x4), some (.int x5), some (.int x6), some (.int x7), some (.int x8), some (.int x9)], [], h) QQ) := by
  refine G_152.partial_correctness _ _ _ (motive := fun lab xs ys zs c8 c11 r =>
    (∀ (x1 : Int32) (x2 : Int32) (x3 : Int32) (x4 : Int32) (x5 : Int32) (x6 : Int32) (x7 : Int32) (x8 : Int32), lab = 0 → xs = [x1, x2, x3, x4, x5, x6, x7, x8] → ys = [] → zs = [] → ∀ h : UH, HW (mkw c0 c1 c2 c3 c4 c5 c6 c7 c8 c9 c10 c11 c12 c13) d h → ∀ QQ : UR → Prop, (∀ h' : UH, HW (mkw c0 c1 c2 c3 c4 c5 c6 c7 r.2.1 c9 c10 r.2.2 c12 c13) d h' → QQ (some (.int r.1), h')) → Ends (EX D) (u_at kl_152) (72, [some (.ref a0), some (.int x1), some (.int x2), some (.int x3), some (.int x4), some (.int x5), some (.int x6), some (.int x7), some (.int x8), none], [], h) QQ) ∧
    (∀ (x1 : Int32) (x2 : Int32) (x3 : Int32) (x4 : Int32) (x5 : Int32) (x6 : Int32) (x7 : Int32) (x8 : Int32) (x9 : Int32), lab = 1 → xs = [x1, x2, x3, x4, x5, x6, x7, x8, x9] → ys = [] → zs = [] → ∀ h : UH, HW (mkw c0 c1 c2 c3 c4 c5 c6 c7 c8 c9 c10 c11 c12 c13) d h → ∀ QQ : UR → Prop, (∀ h' : UH, HW (mkw c0 c1 c2 c3 c4 c5 c6 c7 r.2.1 c9 c10 r.2.2 c12 c13) d h' → QQ (some (.int r.1), h')) → Ends (EX D) (u_at kl_152) (95, [some (.ref a0), some (.int x1), some (.int x2), some (.int x3), some (.int x4), some (.int x5), some (.int x6), some (.int x7), some (.int x8), some (.int x9)], [], h) QQ)) ?_
  intro G ih lab xs ys zs c8 c11 r hF
  refine ⟨?_, ?_⟩
  · intro x1 x2 x3 x4 x5 x6 x7 x8 e1 e2 e3 e4 h hW QQ hQ
    subst e1 e2 e3 e4
    refine en_segs [(72, .iload 8, []), (74, .iload_n 1, [])] (by decide +kernel) (y := (75, [some (.ref a0), some (.int x1), some (.int x2), some (.int x3), some (.int x4), some (.int x5), some (.int x6), some (.int x7), some (.int x8), none], [.int x1, .int x8], h)) rfl ?_
    refine en_ic_ge (by decide +kernel : u_at kl_152 75 = some (.if_icmp .ge 70, [145])) (fun b13 => ?_) (fun b13 => ?_)
    · replace hF := i_pos b13 hF
      refine en_segs [(145, .iload 5, [])] (by decide +kernel) (y := (147, [some (.ref a0), some (.int x1), some (.int x2), some (.int x3), some (.int x4), some (.int x5), some (.int x6), some (.int x7), some (.int x8), none], [.int x5], h)) rfl ?_
      obtain ⟨t14, hX, hK⟩ := ob_some hF
      have j15 : ∀ h : UH, HW (mkw c0 c1 c2 c3 c4 c5 c6 c7 c8 c9 c10 c11 c12 c13) d h → Ends (EX D) (u_at kl_152) (157, [some (.ref a0), some (.int x1), some (.int x2), some (.int x3), some (.int x4), some (.int x5), some (.int x6), some (.int x7), some (.int x8), none], [.int t14], h) QQ := by
        intro h hW
        have hF := hK
        obtain rfl := Option.some.inj hF
        exact en_ret (by decide +kernel : u_at kl_152 157 = some (.ireturn, [0])) rfl (hQ _ hW)
      have hF := hX
      refine en_if_ne (by decide +kernel : u_at kl_152 147 = some (.ifCond .ne 8, [155])) (fun b16 => ?_) (fun b16 => ?_)
      · replace hF := i_pos b16 hF
        refine en_segs [(150, .iload 6, []), (152, .goto 5, [157])] (by decide +kernel) (y := (157, [some (.ref a0), some (.int x1), some (.int x2), some (.int x3), some (.int x4), some (.int x5), some (.int x6), some (.int x7), some (.int x8), none], [.int x6], h)) rfl ?_
        obtain rfl := Option.some.inj hF
        exact j15 _ hW
      · replace hF := i_neg b16 hF
        refine en_segs [(155, .iload 7, [])] (by decide +kernel) (y := (157, [some (.ref a0), some (.int x1), some (.int x2), some (.int x3), some (.int x4), some (.int x5), some (.int x6), some (.int x7), some (.int x8), none], [.int x7], h)) rfl ?_
        obtain rfl := Option.some.inj hF
        exact j15 _ hW
    · replace hF := i_neg b13 hF
      refine en_segs [(78, .aload_n 0, [])] (by decide +kernel) (y := (79, [some (.ref a0), some (.int x1), some (.int x2), some (.int x3), some (.int x4), some (.int x5), some (.int x6), some (.int x7), some (.int x8), none], [.ref a0], h)) rfl ?_
      have k17 : aK d (cR c11 9 a0) = (0, 8, 0) := wf_obj hW ha0 (by decide) rfl
      refine en_get (by decide +kernel : u_at kl_152 79 = some (.getfield 71, [11, 9])) hW ha0 (by decide) rfl ?_
      refine en_segs [(82, .aload_n 0, [])] (by decide +kernel) (y := (83, [some (.ref a0), some (.int x1), some (.int x2), some (.int x3), some (.int x4), some (.int x5), some (.int x6), some (.int x7), some (.int x8), none], [.ref a0, .ref (cR c11 9 a0)], h)) rfl ?_
      have k18 : aK d (cR c11 7 a0) = (0, 10, 0) := wf_obj hW ha0 (by decide) rfl
      refine en_get (by decide +kernel : u_at kl_152 83 = some (.getfield 52, [11, 7])) hW ha0 (by decide) rfl ?_
      have k19 : aK d (cR c10 0 (cR c11 7 a0)) = (0, 8, 0) := wf_obj hW k18 (by decide) rfl
      refine en_get (by decide +kernel : u_at kl_152 86 = some (.getfield 62, [10, 0])) hW k18 (by decide) rfl ?_
      obtain ⟨r20, hr20, hF⟩ := ob_some hF
      refine en_vv (r := []) (by decide +kernel : u_at kl_152 89 = some (.invokevirtual 342, [82, 1, 8])) hW k17 rfl rfl (Nat.le_of_ble_eq_true rfl) (e_82 (D := D) (by omega) hW k17 k19 hr20) (fun h hW => ?_)
      have hW : HW (mkw c0 c1 c2 c3 c4 c5 c6 c7 r20 c9 c10 c11 c12 c13) d h := hW
      refine en_segs [(92, .iconst 0, []), (93, .istore 9, [])] (by decide +kernel) (y := (95, [some (.ref a0), some (.int x1), some (.int x2), some (.int x3), some (.int x4), some (.int x5), some (.int x6), some (.int x7), some (.int x8), some (.int 0)], [], h)) rfl ?_
      exact (ih _ _ _ _ _ _ _ hF).2 _ _ _ _ _ _ _ _ _ rfl rfl rfl rfl  _ hW _ hQ
  · intro x1 x2 x3 x4 x5 x6 x7 x8 x9 e1 e2 e3 e4 h hW QQ hQ
    subst e1 e2 e3 e4
    refine en_segs [(95, .iload 9, []), (97, .iload_n 2, [])] (by decide +kernel) (y := (98, [some (.ref a0), some (.int x1), some (.int x2), some (.int x3), some (.int x4), some (.int x5), some (.int x6), some (.int x7), some (.int x8), some (.int x9)], [.int x2, .int x9], h)) rfl ?_
    refine en_ic_ge (by decide +kernel : u_at kl_152 98 = some (.if_icmp .ge 41, [139])) (fun b21 => ?_) (fun b21 => ?_)
    · replace hF := i_pos b21 hF
      refine en_segs [(139, .iinc 8 1, []), (142, .goto (-70), [72])] (by decide +kernel) (y := (72, [some (.ref a0), some (.int x1), some (.int x2), some (.int x3), some (.int x4), some (.int x5), some (.int x6), some (.int x7), some (.int (x8 + 1)), some (.int x9)], [], h)) rfl ?_
      refine en_fg (fg_k (fg_k (fg_k (fg_k (fg_k (fg_k (fg_k (fg_k (fg_k (fg_d fg_0)))))))))) ?_
      exact (ih _ _ _ _ _ _ _ hF).1 _ _ _ _ _ _ _ _ rfl rfl rfl rfl  _ hW _ hQ
    · replace hF := i_neg b21 hF
      refine en_segs [(101, .iload 7, []), (103, .aload_n 0, [])] (by decide +kernel) (y := (104, [some (.ref a0), some (.int x1), some (.int x2), some (.int x3), some (.int x4), some (.int x5), some (.int x6), some (.int x7), some (.int x8), some (.int x9)], [.ref a0, .int x7], h)) rfl ?_
      obtain ⟨r22, hr22, hF⟩ := ob_some hF
      refine en_vi (r := [.int x7]) (by decide +kernel : u_at kl_152 104 = some (.invokevirtual 345, [168, 0, 11])) hW ha0 rfl rfl (Nat.le_of_ble_eq_true rfl) (e_168 (D := D) (by omega) hW ha0 hr22) (fun h hW => ?_)
      have hW : HW (mkw c0 c1 c2 c3 c4 c5 c6 c7 r22.2.1 c9 c10 r22.2.2 c12 c13) d h := hW
      refine en_segs [(107, .iadd, []), (108, .istore 7, []), (110, .iload 6, []), (112, .aload_n 0, [])] (by decide +kernel) (y := (113, [some (.ref a0), some (.int x1), some (.int x2), some (.int x3), some (.int x4), some (.int x5), some (.int x6), some (.int (x7 + r22.1)), some (.int x8), some (.int x9)], [.ref a0, .int x6], h)) rfl ?_
      have k23 : aK d (cR r22.2.2 9 a0) = (0, 8, 0) := wf_obj hW ha0 (by decide) rfl
      refine en_get (by decide +kernel : u_at kl_152 113 = some (.getfield 71, [11, 9])) hW ha0 (by decide) rfl ?_
      refine en_segs [(116, .iload_n 3, [])] (by decide +kernel) (y := (117, [some (.ref a0), some (.int x1), some (.int x2), some (.int x3), some (.int x4), some (.int x5), some (.int x6), some (.int (x7 + r22.1)), some (.int x8), some (.int x9)], [.int x3, .ref (cR r22.2.2 9 a0), .int x6], h)) rfl ?_
      obtain ⟨r24, hr24, hF⟩ := ob_some hF
      refine en_vi (r := [.int x6]) (by decide +kernel : u_at kl_152 117 = some (.invokevirtual 201, [97, 1, 8])) hW k23 rfl rfl (Nat.le_of_ble_eq_true rfl) (e_97 (D := D) (by omega) hW k23 hr24) (fun h' q => ?_)
      subst q
      refine en_segs [(120, .iload 4, [])] (by decide +kernel) (y := (122, [some (.ref a0), some (.int x1), some (.int x2), some (.int x3), some (.int x4), some (.int x5), some (.int x6), some (.int (x7 + r22.1)), some (.int x8), some (.int x9)], [.int x4, .int r24, .int x6], h)) rfl ?_
      obtain ⟨t25, hX, hK⟩ := ob_some hF
      have j26 : ∀ h : UH, HW (mkw c0 c1 c2 c3 c4 c5 c6 c7 r22.2.1 c9 c10 r22.2.2 c12 c13) d h → Ends (EX D) (u_at kl_152) (130, [some (.ref a0), some (.int x1), some (.int x2), some (.int x3), some (.int x4), some (.int x5), some (.int x6), some (.int (x7 + r22.1)), some (.int x8), some (.int x9)], [.int t25, .int x6], h) QQ := by
        intro h hW
        have hF := hK
        refine en_segs [(130, .iadd, []), (131, .istore 6, []), (133, .iinc 9 1, []), (136, .goto (-41), [95])] (by decide +kernel) (y := (95, [some (.ref a0), some (.int x1), some (.int x2), some (.int x3), some (.int x4), some (.int x5), some (.int (x6 + t25)), some (.int (x7 + r22.1)), some (.int x8), some (.int (x9 + 1))], [], h)) rfl ?_
        exact (ih _ _ _ _ _ _ _ hF).2 _ _ _ _ _ _ _ _ _ rfl rfl rfl rfl  _ hW _ hQ
      have hF := hX
      refine en_ic_lt (by decide +kernel : u_at kl_152 122 = some (.if_icmp .lt 7, [129])) (fun b27 => ?_) (fun b27 => ?_)
      · replace hF := i_pos b27 hF
        refine en_segs [(129, .iconst 0, [])] (by decide +kernel) (y := (130, [some (.ref a0), some (.int x1), some (.int x2), some (.int x3), some (.int x4), some (.int x5), some (.int x6), some (.int (x7 + r22.1)), some (.int x8), some (.int x9)], [.int 0, .int x6], h)) rfl ?_
        obtain rfl := Option.some.inj hF
        exact j26 _ hW
      · replace hF := i_neg b27 hF
        refine en_segs [(125, .iconst 1, []), (126, .goto 4, [130])] (by decide +kernel) (y := (130, [some (.ref a0), some (.int x1), some (.int x2), some (.int x3), some (.int x4), some (.int x5), some (.int x6), some (.int (x7 + r22.1)), some (.int x8), some (.int x9)], [.int 1, .int x6], h)) rfl ?_
        obtain rfl := Option.some.inj hF
        exact j26 _ hW
def F_152 (c1 : Cl) (c8 : Cl) (c10 : Cl) (c11 : Cl) (a0 : Nat) (p1 : Int32) (p2 : Int32) (p3 : Int32) (p4 : Int32) (p5 : Int32) : Option (Int32 × Cl × Cl) :=
  if p1 < 1 then
  some ((-1), c8, c11)
  else
  if 20 < p1 then
  some ((-1), c8, c11)
  else
  if p2 < 1 then
  some ((-1), c8, c11)
  else
  if 100 < p2 then
  some ((-1), c8, c11)
  else
  F_162 c1 c8 c10 c11 a0 p3 >>= fun r5 =>
  if r5 = 0 then
  some ((-1), c8, c11)
  else
  F_164 p4 >>= fun r7 =>
  if r7 = 0 then
  some ((-1), c8, c11)
  else
  if p5 < 0 then
  some ((-1), c8, c11)
  else
  if p5 ≤ 1 then
  some (sJ c11 10 a0 ((cI c10 4 (cR c11 7 a0) : Int32).toInt64)) >>= fun c11_12 =>
  G_152 c1 c10 a0 0 [p1, p2, p3, p4, p5, 0, 0, 0] [] [] c8 c11_12
  else
  some ((-1), c8, c11)
set_option maxRecDepth 100000 in
set_option maxHeartbeats 4000000 in
/-- HeadCounts.nights -/
theorem e_152 {D : Nat} {c0 c1 c2 c3 c4 c5 c6 c7 c8 c9 c10 c11 c12 c13 : Cl} {d : Ad} {h : UH} {a0 : Nat} {p1 : Int32} {p2 : Int32} {p3 : Int32} {p4 : Int32} {p5 : Int32} {r : (Int32 × Cl × Cl)} (hD : 5 ≤ D) (hW : HW (mkw c0 c1 c2 c3 c4 c5 c6 c7 c8 c9 c10 c11 c12 c13) d h) (ha0 : aK d a0 = (0, 11, 0)) (hF : F_152 c1 c8 c10 c11 a0 p1 p2 p3 p4 p5 = some r) : ∃ q, EX D 152 [.ref a0, .int p1, .int p2, .int p3, .int p4, .int p5] h q ∧ q.1 = some (.int r.1) ∧ HW (mkw c0 c1 c2 c3 c4 c5 c6 c7 r.2.1 c9 c10 r.2.2 c12 c13) d q.2 := by
  obtain ⟨D, rfl⟩ : ∃ E, D = E + 1 := ⟨D - 1, by omega⟩
  unfold F_152 at hF
  refine ex_in (kl := kl_152) (nL := 10) rfl (by decide +kernel) (Nat.le_of_ble_eq_true rfl) ?_
  obtain ⟨QQ, hQQ⟩ : ∃ QQ : UR → Prop, QQ = (fun q : UR => q.1 = some (.int r.1) ∧ HW (mkw c0 c1 c2 c3 c4 c5 c6 c7 r.2.1 c9 c10 r.2.2 c12 c13) d q.2) := ⟨_, rfl⟩
  rw [← hQQ]
  have hQ : ∀ h' : UH, HW (mkw c0 c1 c2 c3 c4 c5 c6 c7 r.2.1 c9 c10 r.2.2 c12 c13) d h' → QQ (some (.int r.1), h') := fun h' p => by rw [hQQ]; exact ⟨rfl, p⟩
  clear hQQ
  show Ends (EX D) (u_at kl_152) (0, [some (.ref a0), some (.int p1), some (.int p2), some (.int p3), some (.int p4), some (.int p5), none, none, none, none], [], h) QQ
  refine en_segs [(0, .iload_n 1, []), (1, .iconst 1, [])] (by decide +kernel) (y := (2, [some (.ref a0), some (.int p1), some (.int p2), some (.int p3), some (.int p4), some (.int p5), none, none, none, none], [.int 1, .int p1], h)) rfl ?_
  refine en_ic_lt (by decide +kernel : u_at kl_152 2 = some (.if_icmp .lt 47, [49])) (fun b1 => ?_) (fun b1 => ?_)
  · replace hF := i_pos b1 hF
    refine en_segs [(49, .iconst (-1), [])] (by decide +kernel) (y := (50, [some (.ref a0), some (.int p1), some (.int p2), some (.int p3), some (.int p4), some (.int p5), none, none, none, none], [.int (-1)], h)) rfl ?_
    obtain rfl := Option.some.inj hF
    exact en_ret (by decide +kernel : u_at kl_152 50 = some (.ireturn, [0])) rfl (hQ _ hW)
  · replace hF := i_neg b1 hF
    refine en_segs [(5, .iload_n 1, []), (6, .bipush 20, [])] (by decide +kernel) (y := (8, [some (.ref a0), some (.int p1), some (.int p2), some (.int p3), some (.int p4), some (.int p5), none, none, none, none], [.int 20, .int p1], h)) rfl ?_
    refine en_ic_gt (by decide +kernel : u_at kl_152 8 = some (.if_icmp .gt 41, [49])) (fun b2 => ?_) (fun b2 => ?_)
    · replace hF := i_pos b2 hF
      refine en_segs [(49, .iconst (-1), [])] (by decide +kernel) (y := (50, [some (.ref a0), some (.int p1), some (.int p2), some (.int p3), some (.int p4), some (.int p5), none, none, none, none], [.int (-1)], h)) rfl ?_
      obtain rfl := Option.some.inj hF
      exact en_ret (by decide +kernel : u_at kl_152 50 = some (.ireturn, [0])) rfl (hQ _ hW)
    · replace hF := i_neg b2 hF
      refine en_segs [(11, .iload_n 2, []), (12, .iconst 1, [])] (by decide +kernel) (y := (13, [some (.ref a0), some (.int p1), some (.int p2), some (.int p3), some (.int p4), some (.int p5), none, none, none, none], [.int 1, .int p2], h)) rfl ?_
      refine en_ic_lt (by decide +kernel : u_at kl_152 13 = some (.if_icmp .lt 36, [49])) (fun b3 => ?_) (fun b3 => ?_)
      · replace hF := i_pos b3 hF
        refine en_segs [(49, .iconst (-1), [])] (by decide +kernel) (y := (50, [some (.ref a0), some (.int p1), some (.int p2), some (.int p3), some (.int p4), some (.int p5), none, none, none, none], [.int (-1)], h)) rfl ?_
        obtain rfl := Option.some.inj hF
        exact en_ret (by decide +kernel : u_at kl_152 50 = some (.ireturn, [0])) rfl (hQ _ hW)
      · replace hF := i_neg b3 hF
        refine en_segs [(16, .iload_n 2, []), (17, .bipush 100, [])] (by decide +kernel) (y := (19, [some (.ref a0), some (.int p1), some (.int p2), some (.int p3), some (.int p4), some (.int p5), none, none, none, none], [.int 100, .int p2], h)) rfl ?_
        refine en_ic_gt (by decide +kernel : u_at kl_152 19 = some (.if_icmp .gt 30, [49])) (fun b4 => ?_) (fun b4 => ?_)
        · replace hF := i_pos b4 hF
          refine en_segs [(49, .iconst (-1), [])] (by decide +kernel) (y := (50, [some (.ref a0), some (.int p1), some (.int p2), some (.int p3), some (.int p4), some (.int p5), none, none, none, none], [.int (-1)], h)) rfl ?_
          obtain rfl := Option.some.inj hF
          exact en_ret (by decide +kernel : u_at kl_152 50 = some (.ireturn, [0])) rfl (hQ _ hW)
        · replace hF := i_neg b4 hF
          refine en_segs [(22, .aload_n 0, []), (23, .iload_n 3, [])] (by decide +kernel) (y := (24, [some (.ref a0), some (.int p1), some (.int p2), some (.int p3), some (.int p4), some (.int p5), none, none, none, none], [.int p3, .ref a0], h)) rfl ?_
          obtain ⟨r5, hr5, hF⟩ := ob_some hF
          refine en_vi (r := []) (by decide +kernel : u_at kl_152 24 = some (.invokevirtual 195, [162, 1, 11])) hW ha0 rfl rfl (Nat.le_of_ble_eq_true rfl) (e_162 (D := D) (by omega) hW ha0 hr5) (fun h' q => ?_)
          subst q
          refine en_if_eq (by decide +kernel : u_at kl_152 27 = some (.ifCond .eq 22, [49])) (fun b6 => ?_) (fun b6 => ?_)
          · replace hF := i_pos b6 hF
            refine en_segs [(49, .iconst (-1), [])] (by decide +kernel) (y := (50, [some (.ref a0), some (.int p1), some (.int p2), some (.int p3), some (.int p4), some (.int p5), none, none, none, none], [.int (-1)], h)) rfl ?_
            obtain rfl := Option.some.inj hF
            exact en_ret (by decide +kernel : u_at kl_152 50 = some (.ireturn, [0])) rfl (hQ _ hW)
          · replace hF := i_neg b6 hF
            refine en_segs [(30, .iload 4, [])] (by decide +kernel) (y := (32, [some (.ref a0), some (.int p1), some (.int p2), some (.int p3), some (.int p4), some (.int p5), none, none, none, none], [.int p4], h)) rfl ?_
            obtain ⟨r7, hr7, hF⟩ := ob_some hF
            refine en_si (r := []) (by decide +kernel : u_at kl_152 32 = some (.invokestatic 255, [164, 1])) rfl rfl (Nat.le_of_ble_eq_true rfl) (e_164 (D := D) (by omega) hW hr7) (fun h' q => ?_)
            subst q
            refine en_if_eq (by decide +kernel : u_at kl_152 35 = some (.ifCond .eq 14, [49])) (fun b8 => ?_) (fun b8 => ?_)
            · replace hF := i_pos b8 hF
              refine en_segs [(49, .iconst (-1), [])] (by decide +kernel) (y := (50, [some (.ref a0), some (.int p1), some (.int p2), some (.int p3), some (.int p4), some (.int p5), none, none, none, none], [.int (-1)], h)) rfl ?_
              obtain rfl := Option.some.inj hF
              exact en_ret (by decide +kernel : u_at kl_152 50 = some (.ireturn, [0])) rfl (hQ _ hW)
            · replace hF := i_neg b8 hF
              refine en_segs [(38, .iload 5, [])] (by decide +kernel) (y := (40, [some (.ref a0), some (.int p1), some (.int p2), some (.int p3), some (.int p4), some (.int p5), none, none, none, none], [.int p5], h)) rfl ?_
              refine en_if_lt (by decide +kernel : u_at kl_152 40 = some (.ifCond .lt 9, [49])) (fun b9 => ?_) (fun b9 => ?_)
              · replace hF := i_pos b9 hF
                refine en_segs [(49, .iconst (-1), [])] (by decide +kernel) (y := (50, [some (.ref a0), some (.int p1), some (.int p2), some (.int p3), some (.int p4), some (.int p5), none, none, none, none], [.int (-1)], h)) rfl ?_
                obtain rfl := Option.some.inj hF
                exact en_ret (by decide +kernel : u_at kl_152 50 = some (.ireturn, [0])) rfl (hQ _ hW)
              · replace hF := i_neg b9 hF
                refine en_segs [(43, .iload 5, []), (45, .iconst 1, [])] (by decide +kernel) (y := (46, [some (.ref a0), some (.int p1), some (.int p2), some (.int p3), some (.int p4), some (.int p5), none, none, none, none], [.int 1, .int p5], h)) rfl ?_
                refine en_ic_le (by decide +kernel : u_at kl_152 46 = some (.if_icmp .le 5, [51])) (fun b10 => ?_) (fun b10 => ?_)
                · replace hF := i_pos b10 hF
                  refine en_segs [(51, .aload_n 0, []), (52, .aload_n 0, [])] (by decide +kernel) (y := (53, [some (.ref a0), some (.int p1), some (.int p2), some (.int p3), some (.int p4), some (.int p5), none, none, none, none], [.ref a0, .ref a0], h)) rfl ?_
                  have k11 : aK d (cR c11 7 a0) = (0, 10, 0) := wf_obj hW ha0 (by decide) rfl
                  refine en_get (by decide +kernel : u_at kl_152 53 = some (.getfield 52, [11, 7])) hW ha0 (by decide) rfl ?_
                  refine en_get (by decide +kernel : u_at kl_152 56 = some (.getfield 336, [10, 4])) hW k11 (by decide) rfl ?_
                  refine en_segs [(59, .i2l, [])] (by decide +kernel) (y := (60, [some (.ref a0), some (.int p1), some (.int p2), some (.int p3), some (.int p4), some (.int p5), none, none, none, none], [.long ((cI c10 4 (cR c11 7 a0) : Int32).toInt64), .ref a0], h)) rfl ?_
                  obtain ⟨c11_12, hc11_12, hF⟩ := ob_some hF
                  refine en_putJ (by decide +kernel : u_at kl_152 60 = some (.putfield 339, [11, 10, 1])) hW ha0 rfl (by decide) rfl (fun h hW => ?_)
                  have hW : HW (mkw c0 c1 c2 c3 c4 c5 c6 c7 c8 c9 c10 c11_12 c12 c13) d h := by rw [← Option.some.inj hc11_12]; exact hW
                  refine en_segs [(63, .iconst 0, []), (64, .istore 6, []), (66, .iconst 0, []), (67, .istore 7, []), (69, .iconst 0, []), (70, .istore 8, [])] (by decide +kernel) (y := (72, [some (.ref a0), some (.int p1), some (.int p2), some (.int p3), some (.int p4), some (.int p5), some (.int 0), some (.int 0), some (.int 0), none], [], h)) rfl ?_
                  exact (g_152 (D := D) hD ha0 _ _ _ _ _ _ _ hF).1 _ _ _ _ _ _ _ _ rfl rfl rfl rfl  _ hW _ hQ
                · replace hF := i_neg b10 hF
                  refine en_segs [(49, .iconst (-1), [])] (by decide +kernel) (y := (50, [some (.ref a0), some (.int p1), some (.int p2), some (.int p3), some (.int p4), some (.int p5), none, none, none, none], [.int (-1)], h)) rfl ?_
                  obtain rfl := Option.some.inj hF
                  exact en_ret (by decide +kernel : u_at kl_152 50 = some (.ireturn, [0])) rfl (hQ _ hW)
def F_153 (c1 : Cl) (c8 : Cl) (c10 : Cl) (c11 : Cl) (a0 : Nat) (p1 : Int32) : Option Int32 :=
  if p1 = 0 then
  some (cI c1 0 (cR c8 0 (cR c10 0 (cR c11 7 a0))))
  else
  if p1 = 1 then
  some (cI c1 1 (cR c8 0 (cR c10 0 (cR c11 7 a0))))
  else
  if p1 = 2 then
  some (cI c1 2 (cR c8 0 (cR c10 0 (cR c11 7 a0))))
  else
  if p1 = 3 then
  some (cI c1 3 (cR c8 0 (cR c10 0 (cR c11 7 a0))))
  else
  if p1 = 4 then
  some (cI c11 6 a0)
  else
  if p1 = 5 then
  some (cI c8 1 (cR c10 0 (cR c11 7 a0)))
  else
  if p1 = 6 then
  F_99 c1 c8 (cR c10 0 (cR c11 7 a0)) >>= fun r14 =>
  some r14
  else
  if p1 = 7 then
  some (cI c8 3 (cR c10 0 (cR c11 7 a0)))
  else
  if p1 = 8 then
  some (cI c10 5 (cR c11 7 a0))
  else
  if p1 = 9 then
  some (cI c10 3 (cR c11 7 a0))
  else
  if p1 = 10 then
  F_100 c1 c8 (cR c10 0 (cR c11 7 a0)) >>= fun r19 =>
  some r19
  else
  if p1 = 11 then
  F_157 c1 c8 c10 c11 a0 >>= fun r21 =>
  ((if r21 = 0 then
  some (-1)
  else
  some (cI c1 4 (cR c8 0 (cR c10 0 (cR c11 7 a0))))) : Option (Int32)) >>= fun (t22 : Int32) =>
  some t22
  else
  if p1 = 12 then
  some (cI c10 4 (cR c11 7 a0))
  else
  if p1 = 13 then
  some (cI c11 1 a0)
  else
  some (-1)
set_option maxRecDepth 100000 in
set_option maxHeartbeats 4000000 in
/-- HeadCounts.count -/
theorem e_153 {D : Nat} {c0 c1 c2 c3 c4 c5 c6 c7 c8 c9 c10 c11 c12 c13 : Cl} {d : Ad} {h : UH} {a0 : Nat} {p1 : Int32} {r : Int32} (hD : 3 ≤ D) (hW : HW (mkw c0 c1 c2 c3 c4 c5 c6 c7 c8 c9 c10 c11 c12 c13) d h) (ha0 : aK d a0 = (0, 11, 0)) (hF : F_153 c1 c8 c10 c11 a0 p1 = some r) : ∃ q, EX D 153 [.ref a0, .int p1] h q ∧ q.1 = some (.int r) ∧ h = q.2 := by
  obtain ⟨D, rfl⟩ : ∃ E, D = E + 1 := ⟨D - 1, by omega⟩
  unfold F_153 at hF
  refine ex_in (kl := kl_153) (nL := 3) rfl (by decide +kernel) (Nat.le_of_ble_eq_true rfl) ?_
  obtain ⟨QQ, hQQ⟩ : ∃ QQ : UR → Prop, QQ = (fun q : UR => q.1 = some (.int r) ∧ h = q.2) := ⟨_, rfl⟩
  rw [← hQQ]
  have hQ : QQ (some (.int r), h) := by rw [hQQ]; exact ⟨rfl, rfl⟩
  clear hQQ
  show Ends (EX D) (u_at kl_153) (0, [some (.ref a0), some (.int p1), none], [], h) QQ
  refine en_segs [(0, .aload_n 0, [])] (by decide +kernel) (y := (1, [some (.ref a0), some (.int p1), none], [.ref a0], h)) rfl ?_
  have k1 : aK d (cR c11 7 a0) = (0, 10, 0) := wf_obj hW ha0 (by decide) rfl
  refine en_get (by decide +kernel : u_at kl_153 1 = some (.getfield 52, [11, 7])) hW ha0 (by decide) rfl ?_
  have k2 : aK d (cR c10 0 (cR c11 7 a0)) = (0, 8, 0) := wf_obj hW k1 (by decide) rfl
  refine en_get (by decide +kernel : u_at kl_153 4 = some (.getfield 62, [10, 0])) hW k1 (by decide) rfl ?_
  refine en_segs [(7, .astore_n 2, []), (8, .iload_n 1, [])] (by decide +kernel) (y := (9, [some (.ref a0), some (.int p1), some (.ref (cR c10 0 (cR c11 7 a0)))], [.int p1], h)) rfl ?_
  by_cases b3 : p1 = 0
  · replace hF := i_pos b3 hF
    refine en_tsC (by decide +kernel : u_at kl_153 9 = some (.tableswitch 176 0 13 #[71, 79, 87, 95, 103, 108, 113, 118, 123, 131, 139, 144, 163, 171], [185, 80, 88, 96, 104, 112, 117, 122, 127, 132, 140, 148, 153, 172, 180])) (by rw [b3]; decide) (u := 80) (by rw [b3]; rfl) ?_
    refine en_segs [(80, .aload_n 2, [])] (by decide +kernel) (y := (81, [some (.ref a0), some (.int p1), some (.ref (cR c10 0 (cR c11 7 a0)))], [.ref (cR c10 0 (cR c11 7 a0))], h)) rfl ?_
    have k4 : aK d (cR c8 0 (cR c10 0 (cR c11 7 a0))) = (0, 1, 0) := wf_obj hW k2 (by decide) rfl
    refine en_get (by decide +kernel : u_at kl_153 81 = some (.getfield 66, [8, 0])) hW k2 (by decide) rfl ?_
    refine en_get (by decide +kernel : u_at kl_153 84 = some (.getfield 288, [1, 0])) hW k4 (by decide) rfl ?_
    obtain rfl := Option.some.inj hF
    exact en_ret (by decide +kernel : u_at kl_153 87 = some (.ireturn, [0])) rfl (hQ)
  · replace hF := i_neg b3 hF
    by_cases b5 : p1 = 1
    · replace hF := i_pos b5 hF
      refine en_tsC (by decide +kernel : u_at kl_153 9 = some (.tableswitch 176 0 13 #[71, 79, 87, 95, 103, 108, 113, 118, 123, 131, 139, 144, 163, 171], [185, 80, 88, 96, 104, 112, 117, 122, 127, 132, 140, 148, 153, 172, 180])) (by rw [b5]; decide) (u := 88) (by rw [b5]; rfl) ?_
      refine en_segs [(88, .aload_n 2, [])] (by decide +kernel) (y := (89, [some (.ref a0), some (.int p1), some (.ref (cR c10 0 (cR c11 7 a0)))], [.ref (cR c10 0 (cR c11 7 a0))], h)) rfl ?_
      have k6 : aK d (cR c8 0 (cR c10 0 (cR c11 7 a0))) = (0, 1, 0) := wf_obj hW k2 (by decide) rfl
      refine en_get (by decide +kernel : u_at kl_153 89 = some (.getfield 66, [8, 0])) hW k2 (by decide) rfl ?_
      refine en_get (by decide +kernel : u_at kl_153 92 = some (.getfield 348, [1, 1])) hW k6 (by decide) rfl ?_
      obtain rfl := Option.some.inj hF
      exact en_ret (by decide +kernel : u_at kl_153 95 = some (.ireturn, [0])) rfl (hQ)
    · replace hF := i_neg b5 hF
      by_cases b7 : p1 = 2
      · replace hF := i_pos b7 hF
        refine en_tsC (by decide +kernel : u_at kl_153 9 = some (.tableswitch 176 0 13 #[71, 79, 87, 95, 103, 108, 113, 118, 123, 131, 139, 144, 163, 171], [185, 80, 88, 96, 104, 112, 117, 122, 127, 132, 140, 148, 153, 172, 180])) (by rw [b7]; decide) (u := 96) (by rw [b7]; rfl) ?_
        refine en_segs [(96, .aload_n 2, [])] (by decide +kernel) (y := (97, [some (.ref a0), some (.int p1), some (.ref (cR c10 0 (cR c11 7 a0)))], [.ref (cR c10 0 (cR c11 7 a0))], h)) rfl ?_
        have k8 : aK d (cR c8 0 (cR c10 0 (cR c11 7 a0))) = (0, 1, 0) := wf_obj hW k2 (by decide) rfl
        refine en_get (by decide +kernel : u_at kl_153 97 = some (.getfield 66, [8, 0])) hW k2 (by decide) rfl ?_
        refine en_get (by decide +kernel : u_at kl_153 100 = some (.getfield 126, [1, 2])) hW k8 (by decide) rfl ?_
        obtain rfl := Option.some.inj hF
        exact en_ret (by decide +kernel : u_at kl_153 103 = some (.ireturn, [0])) rfl (hQ)
      · replace hF := i_neg b7 hF
        by_cases b9 : p1 = 3
        · replace hF := i_pos b9 hF
          refine en_tsC (by decide +kernel : u_at kl_153 9 = some (.tableswitch 176 0 13 #[71, 79, 87, 95, 103, 108, 113, 118, 123, 131, 139, 144, 163, 171], [185, 80, 88, 96, 104, 112, 117, 122, 127, 132, 140, 148, 153, 172, 180])) (by rw [b9]; decide) (u := 104) (by rw [b9]; rfl) ?_
          refine en_segs [(104, .aload_n 2, [])] (by decide +kernel) (y := (105, [some (.ref a0), some (.int p1), some (.ref (cR c10 0 (cR c11 7 a0)))], [.ref (cR c10 0 (cR c11 7 a0))], h)) rfl ?_
          have k10 : aK d (cR c8 0 (cR c10 0 (cR c11 7 a0))) = (0, 1, 0) := wf_obj hW k2 (by decide) rfl
          refine en_get (by decide +kernel : u_at kl_153 105 = some (.getfield 66, [8, 0])) hW k2 (by decide) rfl ?_
          refine en_get (by decide +kernel : u_at kl_153 108 = some (.getfield 351, [1, 3])) hW k10 (by decide) rfl ?_
          obtain rfl := Option.some.inj hF
          exact en_ret (by decide +kernel : u_at kl_153 111 = some (.ireturn, [0])) rfl (hQ)
        · replace hF := i_neg b9 hF
          by_cases b11 : p1 = 4
          · replace hF := i_pos b11 hF
            refine en_tsC (by decide +kernel : u_at kl_153 9 = some (.tableswitch 176 0 13 #[71, 79, 87, 95, 103, 108, 113, 118, 123, 131, 139, 144, 163, 171], [185, 80, 88, 96, 104, 112, 117, 122, 127, 132, 140, 148, 153, 172, 180])) (by rw [b11]; decide) (u := 112) (by rw [b11]; rfl) ?_
            refine en_segs [(112, .aload_n 0, [])] (by decide +kernel) (y := (113, [some (.ref a0), some (.int p1), some (.ref (cR c10 0 (cR c11 7 a0)))], [.ref a0], h)) rfl ?_
            refine en_get (by decide +kernel : u_at kl_153 113 = some (.getfield 129, [11, 6])) hW ha0 (by decide) rfl ?_
            obtain rfl := Option.some.inj hF
            exact en_ret (by decide +kernel : u_at kl_153 116 = some (.ireturn, [0])) rfl (hQ)
          · replace hF := i_neg b11 hF
            by_cases b12 : p1 = 5
            · replace hF := i_pos b12 hF
              refine en_tsC (by decide +kernel : u_at kl_153 9 = some (.tableswitch 176 0 13 #[71, 79, 87, 95, 103, 108, 113, 118, 123, 131, 139, 144, 163, 171], [185, 80, 88, 96, 104, 112, 117, 122, 127, 132, 140, 148, 153, 172, 180])) (by rw [b12]; decide) (u := 117) (by rw [b12]; rfl) ?_
              refine en_segs [(117, .aload_n 2, [])] (by decide +kernel) (y := (118, [some (.ref a0), some (.int p1), some (.ref (cR c10 0 (cR c11 7 a0)))], [.ref (cR c10 0 (cR c11 7 a0))], h)) rfl ?_
              refine en_get (by decide +kernel : u_at kl_153 118 = some (.getfield 204, [8, 1])) hW k2 (by decide) rfl ?_
              obtain rfl := Option.some.inj hF
              exact en_ret (by decide +kernel : u_at kl_153 121 = some (.ireturn, [0])) rfl (hQ)
            · replace hF := i_neg b12 hF
              by_cases b13 : p1 = 6
              · replace hF := i_pos b13 hF
                refine en_tsC (by decide +kernel : u_at kl_153 9 = some (.tableswitch 176 0 13 #[71, 79, 87, 95, 103, 108, 113, 118, 123, 131, 139, 144, 163, 171], [185, 80, 88, 96, 104, 112, 117, 122, 127, 132, 140, 148, 153, 172, 180])) (by rw [b13]; decide) (u := 122) (by rw [b13]; rfl) ?_
                refine en_segs [(122, .aload_n 2, [])] (by decide +kernel) (y := (123, [some (.ref a0), some (.int p1), some (.ref (cR c10 0 (cR c11 7 a0)))], [.ref (cR c10 0 (cR c11 7 a0))], h)) rfl ?_
                obtain ⟨r14, hr14, hF⟩ := ob_some hF
                refine en_vi (r := []) (by decide +kernel : u_at kl_153 123 = some (.invokevirtual 354, [99, 0, 8])) hW k2 rfl rfl (Nat.le_of_ble_eq_true rfl) (e_99 (D := D) (by omega) hW k2 hr14) (fun h' q => ?_)
                subst q
                obtain rfl := Option.some.inj hF
                exact en_ret (by decide +kernel : u_at kl_153 126 = some (.ireturn, [0])) rfl (hQ)
              · replace hF := i_neg b13 hF
                by_cases b15 : p1 = 7
                · replace hF := i_pos b15 hF
                  refine en_tsC (by decide +kernel : u_at kl_153 9 = some (.tableswitch 176 0 13 #[71, 79, 87, 95, 103, 108, 113, 118, 123, 131, 139, 144, 163, 171], [185, 80, 88, 96, 104, 112, 117, 122, 127, 132, 140, 148, 153, 172, 180])) (by rw [b15]; decide) (u := 127) (by rw [b15]; rfl) ?_
                  refine en_segs [(127, .aload_n 2, [])] (by decide +kernel) (y := (128, [some (.ref a0), some (.int p1), some (.ref (cR c10 0 (cR c11 7 a0)))], [.ref (cR c10 0 (cR c11 7 a0))], h)) rfl ?_
                  refine en_get (by decide +kernel : u_at kl_153 128 = some (.getfield 357, [8, 3])) hW k2 (by decide) rfl ?_
                  obtain rfl := Option.some.inj hF
                  exact en_ret (by decide +kernel : u_at kl_153 131 = some (.ireturn, [0])) rfl (hQ)
                · replace hF := i_neg b15 hF
                  by_cases b16 : p1 = 8
                  · replace hF := i_pos b16 hF
                    refine en_tsC (by decide +kernel : u_at kl_153 9 = some (.tableswitch 176 0 13 #[71, 79, 87, 95, 103, 108, 113, 118, 123, 131, 139, 144, 163, 171], [185, 80, 88, 96, 104, 112, 117, 122, 127, 132, 140, 148, 153, 172, 180])) (by rw [b16]; decide) (u := 132) (by rw [b16]; rfl) ?_
                    refine en_segs [(132, .aload_n 0, [])] (by decide +kernel) (y := (133, [some (.ref a0), some (.int p1), some (.ref (cR c10 0 (cR c11 7 a0)))], [.ref a0], h)) rfl ?_
                    refine en_get (by decide +kernel : u_at kl_153 133 = some (.getfield 52, [11, 7])) hW ha0 (by decide) rfl ?_
                    refine en_get (by decide +kernel : u_at kl_153 136 = some (.getfield 252, [10, 5])) hW k1 (by decide) rfl ?_
                    obtain rfl := Option.some.inj hF
                    exact en_ret (by decide +kernel : u_at kl_153 139 = some (.ireturn, [0])) rfl (hQ)
                  · replace hF := i_neg b16 hF
                    by_cases b17 : p1 = 9
                    · replace hF := i_pos b17 hF
                      refine en_tsC (by decide +kernel : u_at kl_153 9 = some (.tableswitch 176 0 13 #[71, 79, 87, 95, 103, 108, 113, 118, 123, 131, 139, 144, 163, 171], [185, 80, 88, 96, 104, 112, 117, 122, 127, 132, 140, 148, 153, 172, 180])) (by rw [b17]; decide) (u := 140) (by rw [b17]; rfl) ?_
                      refine en_segs [(140, .aload_n 0, [])] (by decide +kernel) (y := (141, [some (.ref a0), some (.int p1), some (.ref (cR c10 0 (cR c11 7 a0)))], [.ref a0], h)) rfl ?_
                      refine en_get (by decide +kernel : u_at kl_153 141 = some (.getfield 52, [11, 7])) hW ha0 (by decide) rfl ?_
                      refine en_get (by decide +kernel : u_at kl_153 144 = some (.getfield 232, [10, 3])) hW k1 (by decide) rfl ?_
                      obtain rfl := Option.some.inj hF
                      exact en_ret (by decide +kernel : u_at kl_153 147 = some (.ireturn, [0])) rfl (hQ)
                    · replace hF := i_neg b17 hF
                      by_cases b18 : p1 = 10
                      · replace hF := i_pos b18 hF
                        refine en_tsC (by decide +kernel : u_at kl_153 9 = some (.tableswitch 176 0 13 #[71, 79, 87, 95, 103, 108, 113, 118, 123, 131, 139, 144, 163, 171], [185, 80, 88, 96, 104, 112, 117, 122, 127, 132, 140, 148, 153, 172, 180])) (by rw [b18]; decide) (u := 148) (by rw [b18]; rfl) ?_
                        refine en_segs [(148, .aload_n 2, [])] (by decide +kernel) (y := (149, [some (.ref a0), some (.int p1), some (.ref (cR c10 0 (cR c11 7 a0)))], [.ref (cR c10 0 (cR c11 7 a0))], h)) rfl ?_
                        obtain ⟨r19, hr19, hF⟩ := ob_some hF
                        refine en_vi (r := []) (by decide +kernel : u_at kl_153 149 = some (.invokevirtual 360, [100, 0, 8])) hW k2 rfl rfl (Nat.le_of_ble_eq_true rfl) (e_100 (D := D) (by omega) hW k2 hr19) (fun h' q => ?_)
                        subst q
                        obtain rfl := Option.some.inj hF
                        exact en_ret (by decide +kernel : u_at kl_153 152 = some (.ireturn, [0])) rfl (hQ)
                      · replace hF := i_neg b18 hF
                        by_cases b20 : p1 = 11
                        · replace hF := i_pos b20 hF
                          refine en_tsC (by decide +kernel : u_at kl_153 9 = some (.tableswitch 176 0 13 #[71, 79, 87, 95, 103, 108, 113, 118, 123, 131, 139, 144, 163, 171], [185, 80, 88, 96, 104, 112, 117, 122, 127, 132, 140, 148, 153, 172, 180])) (by rw [b20]; decide) (u := 153) (by rw [b20]; rfl) ?_
                          refine en_segs [(153, .aload_n 0, [])] (by decide +kernel) (y := (154, [some (.ref a0), some (.int p1), some (.ref (cR c10 0 (cR c11 7 a0)))], [.ref a0], h)) rfl ?_
                          obtain ⟨r21, hr21, hF⟩ := ob_some hF
                          refine en_vi (r := []) (by decide +kernel : u_at kl_153 154 = some (.invokevirtual 222, [157, 0, 11])) hW ha0 rfl rfl (Nat.le_of_ble_eq_true rfl) (e_157 (D := D) (by omega) hW ha0 hr21) (fun h' q => ?_)
                          subst q
                          obtain ⟨t22, hX, hK⟩ := ob_some hF
                          have j23 : Ends (EX D) (u_at kl_153) (171, [some (.ref a0), some (.int p1), some (.ref (cR c10 0 (cR c11 7 a0)))], [.int t22], h) QQ := by
                            have hF := hK
                            obtain rfl := Option.some.inj hF
                            exact en_ret (by decide +kernel : u_at kl_153 171 = some (.ireturn, [0])) rfl (hQ)
                          have hF := hX
                          refine en_if_eq (by decide +kernel : u_at kl_153 157 = some (.ifCond .eq 13, [170])) (fun b24 => ?_) (fun b24 => ?_)
                          · replace hF := i_pos b24 hF
                            refine en_segs [(170, .iconst (-1), [])] (by decide +kernel) (y := (171, [some (.ref a0), some (.int p1), some (.ref (cR c10 0 (cR c11 7 a0)))], [.int (-1)], h)) rfl ?_
                            obtain rfl := Option.some.inj hF
                            exact j23
                          · replace hF := i_neg b24 hF
                            refine en_segs [(160, .aload_n 2, [])] (by decide +kernel) (y := (161, [some (.ref a0), some (.int p1), some (.ref (cR c10 0 (cR c11 7 a0)))], [.ref (cR c10 0 (cR c11 7 a0))], h)) rfl ?_
                            have k25 : aK d (cR c8 0 (cR c10 0 (cR c11 7 a0))) = (0, 1, 0) := wf_obj hW k2 (by decide) rfl
                            refine en_get (by decide +kernel : u_at kl_153 161 = some (.getfield 66, [8, 0])) hW k2 (by decide) rfl ?_
                            refine en_get (by decide +kernel : u_at kl_153 164 = some (.getfield 363, [1, 4])) hW k25 (by decide) rfl ?_
                            refine en_segs [(167, .goto 4, [171])] (by decide +kernel) (y := (171, [some (.ref a0), some (.int p1), some (.ref (cR c10 0 (cR c11 7 a0)))], [.int (cI c1 4 (cR c8 0 (cR c10 0 (cR c11 7 a0))))], h)) rfl ?_
                            obtain rfl := Option.some.inj hF
                            exact j23
                        · replace hF := i_neg b20 hF
                          by_cases b26 : p1 = 12
                          · replace hF := i_pos b26 hF
                            refine en_tsC (by decide +kernel : u_at kl_153 9 = some (.tableswitch 176 0 13 #[71, 79, 87, 95, 103, 108, 113, 118, 123, 131, 139, 144, 163, 171], [185, 80, 88, 96, 104, 112, 117, 122, 127, 132, 140, 148, 153, 172, 180])) (by rw [b26]; decide) (u := 172) (by rw [b26]; rfl) ?_
                            refine en_segs [(172, .aload_n 0, [])] (by decide +kernel) (y := (173, [some (.ref a0), some (.int p1), some (.ref (cR c10 0 (cR c11 7 a0)))], [.ref a0], h)) rfl ?_
                            refine en_get (by decide +kernel : u_at kl_153 173 = some (.getfield 52, [11, 7])) hW ha0 (by decide) rfl ?_
                            refine en_get (by decide +kernel : u_at kl_153 176 = some (.getfield 336, [10, 4])) hW k1 (by decide) rfl ?_
                            obtain rfl := Option.some.inj hF
                            exact en_ret (by decide +kernel : u_at kl_153 179 = some (.ireturn, [0])) rfl (hQ)
                          · replace hF := i_neg b26 hF
                            by_cases b27 : p1 = 13
                            · replace hF := i_pos b27 hF
                              refine en_tsC (by decide +kernel : u_at kl_153 9 = some (.tableswitch 176 0 13 #[71, 79, 87, 95, 103, 108, 113, 118, 123, 131, 139, 144, 163, 171], [185, 80, 88, 96, 104, 112, 117, 122, 127, 132, 140, 148, 153, 172, 180])) (by rw [b27]; decide) (u := 180) (by rw [b27]; rfl) ?_
                              refine en_segs [(180, .aload_n 0, [])] (by decide +kernel) (y := (181, [some (.ref a0), some (.int p1), some (.ref (cR c10 0 (cR c11 7 a0)))], [.ref a0], h)) rfl ?_
                              refine en_get (by decide +kernel : u_at kl_153 181 = some (.getfield 104, [11, 1])) hW ha0 (by decide) rfl ?_
                              obtain rfl := Option.some.inj hF
                              exact en_ret (by decide +kernel : u_at kl_153 184 = some (.ireturn, [0])) rfl (hQ)
                            · replace hF := i_neg b27 hF
                              have wb3 : (p1 : Int32).toInt ≠ 0 := ti_ne b3
                              have wb5 : (p1 : Int32).toInt ≠ 1 := ti_ne b5
                              have wb7 : (p1 : Int32).toInt ≠ 2 := ti_ne b7
                              have wb9 : (p1 : Int32).toInt ≠ 3 := ti_ne b9
                              have wb11 : (p1 : Int32).toInt ≠ 4 := ti_ne b11
                              have wb12 : (p1 : Int32).toInt ≠ 5 := ti_ne b12
                              have wb13 : (p1 : Int32).toInt ≠ 6 := ti_ne b13
                              have wb15 : (p1 : Int32).toInt ≠ 7 := ti_ne b15
                              have wb16 : (p1 : Int32).toInt ≠ 8 := ti_ne b16
                              have wb17 : (p1 : Int32).toInt ≠ 9 := ti_ne b17
                              have wb18 : (p1 : Int32).toInt ≠ 10 := ti_ne b18
                              have wb20 : (p1 : Int32).toInt ≠ 11 := ti_ne b20
                              have wb26 : (p1 : Int32).toInt ≠ 12 := ti_ne b26
                              have wb27 : (p1 : Int32).toInt ≠ 13 := ti_ne b27
                              refine en_tsO (by decide +kernel : u_at kl_153 9 = some (.tableswitch 176 0 13 #[71, 79, 87, 95, 103, 108, 113, 118, 123, 131, 139, 144, 163, 171], [185, 80, 88, 96, 104, 112, 117, 122, 127, 132, 140, 148, 153, 172, 180])) (by omega) ?_
                              refine en_segs [(185, .iconst (-1), [])] (by decide +kernel) (y := (186, [some (.ref a0), some (.int p1), some (.ref (cR c10 0 (cR c11 7 a0)))], [.int (-1)], h)) rfl ?_
                              obtain rfl := Option.some.inj hF
                              exact en_ret (by decide +kernel : u_at kl_153 186 = some (.ireturn, [0])) rfl (hQ)
def F_155 (c7 : Cl) (c8 : Cl) (c10 : Cl) (c11 : Cl) (a0 : Nat) (p1 : Int32) : Option (Int32 × Cl × Cl × Cl) :=
  if p1 < 0 then
  some ((-1), c7, c8, c10)
  else
  if 4 ≤ p1 then
  some ((-1), c7, c8, c10)
  else
  ldq (cQ c11 8 a0) 4 p1 >>= fun v3 =>
  if v3 = none then
  some ((-1), c7, c8, c10)
  else
  ldq (cQ c11 8 a0) 4 p1 >>= fun v6 =>
  v6 >>= fun o7 =>
  F_118 c8 c10 (cR c11 7 a0) o7 >>= fun r9 =>
  some (sI c7 1 (cR c11 12 a0) 0) >>= fun c7_11 =>
  some (cI r9.1 1 (cR r9.2 0 (cR c11 7 a0)), c7_11, r9.1, r9.2)
set_option maxRecDepth 100000 in
set_option maxHeartbeats 4000000 in
/-- HeadCounts.back -/
theorem e_155 {D : Nat} {c0 c1 c2 c3 c4 c5 c6 c7 c8 c9 c10 c11 c12 c13 : Cl} {d : Ad} {h : UH} {a0 : Nat} {p1 : Int32} {r : (Int32 × Cl × Cl × Cl)} (hD : 3 ≤ D) (hW : HW (mkw c0 c1 c2 c3 c4 c5 c6 c7 c8 c9 c10 c11 c12 c13) d h) (ha0 : aK d a0 = (0, 11, 0)) (hF : F_155 c7 c8 c10 c11 a0 p1 = some r) : ∃ q, EX D 155 [.ref a0, .int p1] h q ∧ q.1 = some (.int r.1) ∧ HW (mkw c0 c1 c2 c3 c4 c5 c6 r.2.1 r.2.2.1 c9 r.2.2.2 c11 c12 c13) d q.2 := by
  obtain ⟨D, rfl⟩ : ∃ E, D = E + 1 := ⟨D - 1, by omega⟩
  unfold F_155 at hF
  refine ex_in (kl := kl_155) (nL := 2) rfl (by decide +kernel) (Nat.le_of_ble_eq_true rfl) ?_
  obtain ⟨QQ, hQQ⟩ : ∃ QQ : UR → Prop, QQ = (fun q : UR => q.1 = some (.int r.1) ∧ HW (mkw c0 c1 c2 c3 c4 c5 c6 r.2.1 r.2.2.1 c9 r.2.2.2 c11 c12 c13) d q.2) := ⟨_, rfl⟩
  rw [← hQQ]
  have hQ : ∀ h' : UH, HW (mkw c0 c1 c2 c3 c4 c5 c6 r.2.1 r.2.2.1 c9 r.2.2.2 c11 c12 c13) d h' → QQ (some (.int r.1), h') := fun h' p => by rw [hQQ]; exact ⟨rfl, p⟩
  clear hQQ
  show Ends (EX D) (u_at kl_155) (0, [some (.ref a0), some (.int p1)], [], h) QQ
  refine en_segs [(0, .iload_n 1, [])] (by decide +kernel) (y := (1, [some (.ref a0), some (.int p1)], [.int p1], h)) rfl ?_
  refine en_if_lt (by decide +kernel : u_at kl_155 1 = some (.ifCond .lt 17, [18])) (fun b1 => ?_) (fun b1 => ?_)
  · replace hF := i_pos b1 hF
    refine en_segs [(18, .iconst (-1), [])] (by decide +kernel) (y := (19, [some (.ref a0), some (.int p1)], [.int (-1)], h)) rfl ?_
    obtain rfl := Option.some.inj hF
    exact en_ret (by decide +kernel : u_at kl_155 19 = some (.ireturn, [0])) rfl (hQ _ hW)
  · replace hF := i_neg b1 hF
    refine en_segs [(4, .iload_n 1, []), (5, .iconst 4, [])] (by decide +kernel) (y := (6, [some (.ref a0), some (.int p1)], [.int 4, .int p1], h)) rfl ?_
    refine en_ic_ge (by decide +kernel : u_at kl_155 6 = some (.if_icmp .ge 12, [18])) (fun b2 => ?_) (fun b2 => ?_)
    · replace hF := i_pos b2 hF
      refine en_segs [(18, .iconst (-1), [])] (by decide +kernel) (y := (19, [some (.ref a0), some (.int p1)], [.int (-1)], h)) rfl ?_
      obtain rfl := Option.some.inj hF
      exact en_ret (by decide +kernel : u_at kl_155 19 = some (.ireturn, [0])) rfl (hQ _ hW)
    · replace hF := i_neg b2 hF
      refine en_segs [(9, .aload_n 0, [])] (by decide +kernel) (y := (10, [some (.ref a0), some (.int p1)], [.ref a0], h)) rfl ?_
      refine en_get (by decide +kernel : u_at kl_155 10 = some (.getfield 56, [11, 8])) hW ha0 (by decide) rfl ?_
      refine en_segs [(13, .iload_n 1, [])] (by decide +kernel) (y := (14, [some (.ref a0), some (.int p1)], [.int p1, .ref (aP d 11 8 a0)], h)) rfl ?_
      obtain ⟨v3, hv3, hF⟩ := ob_some hF
      have ev3 : ∀ q, v3 = some q → aK d q = (0, 10, 0) := fun q e => wf_elem (t := 6) hW ha0 (by decide) rfl (by decide) ((ldq_some hv3).2.trans e)
      refine en_aald (by decide +kernel : u_at kl_155 14 = some (.aaload, [])) hW ha0 rfl (by decide) (by decide) hv3 ?_
      refine en_nn (by decide +kernel : u_at kl_155 15 = some (.ifnonnull 5, [20])) (fun b4 => ?_) (fun b4 => ?_)
      · replace hF := i_pos b4 hF
        refine en_segs [(18, .iconst (-1), [])] (by decide +kernel) (y := (19, [some (.ref a0), some (.int p1)], [.int (-1)], h)) rfl ?_
        obtain rfl := Option.some.inj hF
        exact en_ret (by decide +kernel : u_at kl_155 19 = some (.ireturn, [0])) rfl (hQ _ hW)
      · replace hF := i_neg b4 hF
        refine en_segs [(20, .aload_n 0, [])] (by decide +kernel) (y := (21, [some (.ref a0), some (.int p1)], [.ref a0], h)) rfl ?_
        have k5 : aK d (cR c11 7 a0) = (0, 10, 0) := wf_obj hW ha0 (by decide) rfl
        refine en_get (by decide +kernel : u_at kl_155 21 = some (.getfield 52, [11, 7])) hW ha0 (by decide) rfl ?_
        refine en_segs [(24, .aload_n 0, [])] (by decide +kernel) (y := (25, [some (.ref a0), some (.int p1)], [.ref a0, .ref (cR c11 7 a0)], h)) rfl ?_
        refine en_get (by decide +kernel : u_at kl_155 25 = some (.getfield 56, [11, 8])) hW ha0 (by decide) rfl ?_
        refine en_segs [(28, .iload_n 1, [])] (by decide +kernel) (y := (29, [some (.ref a0), some (.int p1)], [.int p1, .ref (aP d 11 8 a0), .ref (cR c11 7 a0)], h)) rfl ?_
        obtain ⟨v6, hv6, hF⟩ := ob_some hF
        have ev6 : ∀ q, v6 = some q → aK d q = (0, 10, 0) := fun q e => wf_elem (t := 6) hW ha0 (by decide) rfl (by decide) ((ldq_some hv6).2.trans e)
        refine en_aald (by decide +kernel : u_at kl_155 29 = some (.aaload, [])) hW ha0 rfl (by decide) (by decide) hv6 ?_
        obtain ⟨o7, ho7, hF⟩ := ob_some hF
        have k8 : aK d o7 = (0, 10, 0) := ev6 o7 ho7
        rw [ho7]
        obtain ⟨r9, hr9, hF⟩ := ob_some hF
        refine en_vv (r := []) (by decide +kernel : u_at kl_155 30 = some (.invokevirtual 366, [118, 1, 10])) hW k5 rfl rfl (Nat.le_of_ble_eq_true rfl) (e_118 (D := D) (by omega) hW k5 k8 hr9) (fun h hW => ?_)
        have hW : HW (mkw c0 c1 c2 c3 c4 c5 c6 c7 r9.1 c9 r9.2 c11 c12 c13) d h := hW
        refine en_segs [(33, .aload_n 0, [])] (by decide +kernel) (y := (34, [some (.ref a0), some (.int p1)], [.ref a0], h)) rfl ?_
        have k10 : aK d (cR c11 12 a0) = (0, 7, 0) := wf_obj hW ha0 (by decide) rfl
        refine en_get (by decide +kernel : u_at kl_155 34 = some (.getfield 86, [11, 12])) hW ha0 (by decide) rfl ?_
        refine en_segs [(37, .iconst 0, [])] (by decide +kernel) (y := (38, [some (.ref a0), some (.int p1)], [.int 0, .ref (cR c11 12 a0)], h)) rfl ?_
        obtain ⟨c7_11, hc7_11, hF⟩ := ob_some hF
        refine en_putI (by decide +kernel : u_at kl_155 38 = some (.putfield 122, [7, 1, 2])) hW k10 rfl (by decide) rfl (fun h hW => ?_)
        have hW : HW (mkw c0 c1 c2 c3 c4 c5 c6 c7_11 r9.1 c9 r9.2 c11 c12 c13) d h := by rw [← Option.some.inj hc7_11]; exact hW
        refine en_segs [(41, .aload_n 0, [])] (by decide +kernel) (y := (42, [some (.ref a0), some (.int p1)], [.ref a0], h)) rfl ?_
        refine en_get (by decide +kernel : u_at kl_155 42 = some (.getfield 52, [11, 7])) hW ha0 (by decide) rfl ?_
        have k12 : aK d (cR r9.2 0 (cR c11 7 a0)) = (0, 8, 0) := wf_obj hW k5 (by decide) rfl
        refine en_get (by decide +kernel : u_at kl_155 45 = some (.getfield 62, [10, 0])) hW k5 (by decide) rfl ?_
        refine en_get (by decide +kernel : u_at kl_155 48 = some (.getfield 204, [8, 1])) hW k12 (by decide) rfl ?_
        obtain rfl := Option.some.inj hF
        exact en_ret (by decide +kernel : u_at kl_155 51 = some (.ireturn, [0])) rfl (hQ _ hW)
def F_170 (p1 : Int64) (p2 : Int64) (p3 : Int64) : Option Int32 :=
  ((if (lg_cmp p1 p2) < 0 then
  some 0
  else
  if 0 < (lg_cmp p1 p3) then
  some 0
  else
  some 1) : Option (Int32)) >>= fun (t1 : Int32) =>
  zb t1 >>= fun z3 => some z3
set_option maxRecDepth 100000 in
set_option maxHeartbeats 4000000 in
/-- HeadCountsModel.in -/
theorem e_170 {D : Nat} {c0 c1 c2 c3 c4 c5 c6 c7 c8 c9 c10 c11 c12 c13 : Cl} {d : Ad} {h : UH} {p1 : Int64} {p2 : Int64} {p3 : Int64} {r : Int32} (hD : 1 ≤ D) (hW : HW (mkw c0 c1 c2 c3 c4 c5 c6 c7 c8 c9 c10 c11 c12 c13) d h) (hF : F_170 p1 p2 p3 = some r) : ∃ q, EX D 170 [.long p1, .long p2, .long p3] h q ∧ q.1 = some (.int r) ∧ h = q.2 := by
  obtain ⟨D, rfl⟩ : ∃ E, D = E + 1 := ⟨D - 1, by omega⟩
  unfold F_170 at hF
  refine ex_in (kl := kl_170) (nL := 6) rfl (by decide +kernel) (Nat.le_of_ble_eq_true rfl) ?_
  obtain ⟨QQ, hQQ⟩ : ∃ QQ : UR → Prop, QQ = (fun q : UR => q.1 = some (.int r) ∧ h = q.2) := ⟨_, rfl⟩
  rw [← hQQ]
  have hQ : QQ (some (.int r), h) := by rw [hQQ]; exact ⟨rfl, rfl⟩
  clear hQQ
  show Ends (EX D) (u_at kl_170) (0, [some (.long p1), none, some (.long p2), none, some (.long p3), none], [], h) QQ
  refine en_segs [(0, .lload_n 0, []), (1, .lload_n 2, []), (2, .lcmp, [])] (by decide +kernel) (y := (3, [some (.long p1), none, some (.long p2), none, some (.long p3), none], [.int (lg_cmp p1 p2)], h)) rfl ?_
  obtain ⟨t1, hX, hK⟩ := ob_some hF
  have j2 : Ends (EX D) (u_at kl_170) (18, [some (.long p1), none, some (.long p2), none, some (.long p3), none], [.int t1], h) QQ := by
    have hF := hK
    obtain ⟨z3, hz3, hF⟩ := ob_some hF
    obtain rfl := Option.some.inj hF
    exact en_retZ (by decide +kernel : u_at kl_170 18 = some (.ireturn, [1])) hz3 (hQ)
  have hF := hX
  refine en_if_lt (by decide +kernel : u_at kl_170 3 = some (.ifCond .lt 14, [17])) (fun b4 => ?_) (fun b4 => ?_)
  · replace hF := i_pos b4 hF
    refine en_segs [(17, .iconst 0, [])] (by decide +kernel) (y := (18, [some (.long p1), none, some (.long p2), none, some (.long p3), none], [.int 0], h)) rfl ?_
    obtain rfl := Option.some.inj hF
    exact j2
  · replace hF := i_neg b4 hF
    refine en_segs [(6, .lload_n 0, []), (7, .lload 4, []), (9, .lcmp, [])] (by decide +kernel) (y := (10, [some (.long p1), none, some (.long p2), none, some (.long p3), none], [.int (lg_cmp p1 p3)], h)) rfl ?_
    refine en_if_gt (by decide +kernel : u_at kl_170 10 = some (.ifCond .gt 7, [17])) (fun b5 => ?_) (fun b5 => ?_)
    · replace hF := i_pos b5 hF
      refine en_segs [(17, .iconst 0, [])] (by decide +kernel) (y := (18, [some (.long p1), none, some (.long p2), none, some (.long p3), none], [.int 0], h)) rfl ?_
      obtain rfl := Option.some.inj hF
      exact j2
    · replace hF := i_neg b5 hF
      refine en_segs [(13, .iconst 1, []), (14, .goto 4, [18])] (by decide +kernel) (y := (18, [some (.long p1), none, some (.long p2), none, some (.long p3), none], [.int 1], h)) rfl ?_
      obtain rfl := Option.some.inj hF
      exact j2
def F_171 (p1 : Int32) (p2 : Int32) : Option Int32 :=
  ((if ((p1 >>> (p2 &&& 31)) &&& 1) = 1 then
  some 1
  else
  some 0) : Option (Int32)) >>= fun (t1 : Int32) =>
  zb t1 >>= fun z3 => some z3
set_option maxRecDepth 100000 in
set_option maxHeartbeats 4000000 in
/-- HeadCountsModel.isOf -/
theorem e_171 {D : Nat} {c0 c1 c2 c3 c4 c5 c6 c7 c8 c9 c10 c11 c12 c13 : Cl} {d : Ad} {h : UH} {p1 : Int32} {p2 : Int32} {r : Int32} (hD : 1 ≤ D) (hW : HW (mkw c0 c1 c2 c3 c4 c5 c6 c7 c8 c9 c10 c11 c12 c13) d h) (hF : F_171 p1 p2 = some r) : ∃ q, EX D 171 [.int p1, .int p2] h q ∧ q.1 = some (.int r) ∧ h = q.2 := by
  obtain ⟨D, rfl⟩ : ∃ E, D = E + 1 := ⟨D - 1, by omega⟩
  unfold F_171 at hF
  refine ex_in (kl := kl_171) (nL := 2) rfl (by decide +kernel) (Nat.le_of_ble_eq_true rfl) ?_
  obtain ⟨QQ, hQQ⟩ : ∃ QQ : UR → Prop, QQ = (fun q : UR => q.1 = some (.int r) ∧ h = q.2) := ⟨_, rfl⟩
  rw [← hQQ]
  have hQ : QQ (some (.int r), h) := by rw [hQQ]; exact ⟨rfl, rfl⟩
  clear hQQ
  show Ends (EX D) (u_at kl_171) (0, [some (.int p1), some (.int p2)], [], h) QQ
  refine en_segs [(0, .iload_n 0, []), (1, .iload_n 1, []), (2, .ishr, []), (3, .iconst 1, []), (4, .iand, []), (5, .iconst 1, [])] (by decide +kernel) (y := (6, [some (.int p1), some (.int p2)], [.int 1, .int ((p1 >>> (p2 &&& 31)) &&& 1)], h)) rfl ?_
  obtain ⟨t1, hX, hK⟩ := ob_some hF
  have j2 : Ends (EX D) (u_at kl_171) (14, [some (.int p1), some (.int p2)], [.int t1], h) QQ := by
    have hF := hK
    obtain ⟨z3, hz3, hF⟩ := ob_some hF
    obtain rfl := Option.some.inj hF
    exact en_retZ (by decide +kernel : u_at kl_171 14 = some (.ireturn, [1])) hz3 (hQ)
  have hF := hX
  refine en_ic_ne (by decide +kernel : u_at kl_171 6 = some (.if_icmp .ne 7, [13])) (fun b4 => ?_) (fun b4 => ?_)
  · replace hF := i_pos b4 hF
    refine en_segs [(9, .iconst 1, []), (10, .goto 4, [14])] (by decide +kernel) (y := (14, [some (.int p1), some (.int p2)], [.int 1], h)) rfl ?_
    obtain rfl := Option.some.inj hF
    exact j2
  · replace hF := i_neg b4 hF
    refine en_segs [(13, .iconst 0, [])] (by decide +kernel) (y := (14, [some (.int p1), some (.int p2)], [.int 0], h)) rfl ?_
    obtain rfl := Option.some.inj hF
    exact j2
def G_172 (lab : Nat) (xs : List Int32) (ys : List Int64) (zs : List Nat) : Option Int32 := match lab, xs, ys, zs with
  | 0, [x1, x2], [], [] =>
    if x2 = 0 then
    some x1
    else
    G_172 0 [x1 + 1, x2 &&& (x2 - 1)] [] []
  | _, _, _, _ => none
partial_fixpoint
set_option maxRecDepth 100000 in
set_option maxHeartbeats 4000000 in
theorem g_172 {D : Nat} (hD : 1 ≤ D + 1) {c0 c1 c2 c3 c4 c5 c6 c7 c8 c9 c10 c11 c12 c13 : Cl} {d : Ad} : ∀ (lab : Nat) (xs : List Int32) (ys : List Int64) (zs : List Nat) (r : Int32), G_172  lab xs ys zs = some r →
    (∀ (x1 : Int32) (x2 : Int32), lab = 0 → xs = [x1, x2] → ys = [] → zs = [] → ∀ h : UH, HW (mkw c0 c1 c2 c3 c4 c5 c6 c7 c8 c9 c10 c11 c12 c13) d h → ∀ QQ : UR → Prop, QQ (some (.int r), h) → Ends (EX D) (u_at kl_172) (4, [none, some (.int x1), some (.int x2)], [], h) QQ) := by
  refine G_172.partial_correctness  (motive := fun lab xs ys zs r =>
    (∀ (x1 : Int32) (x2 : Int32), lab = 0 → xs = [x1, x2] → ys = [] → zs = [] → ∀ h : UH, HW (mkw c0 c1 c2 c3 c4 c5 c6 c7 c8 c9 c10 c11 c12 c13) d h → ∀ QQ : UR → Prop, QQ (some (.int r), h) → Ends (EX D) (u_at kl_172) (4, [none, some (.int x1), some (.int x2)], [], h) QQ)) ?_
  intro G ih lab xs ys zs r hF
  · intro x1 x2 e1 e2 e3 e4 h hW QQ hQ
    subst e1 e2 e3 e4
    refine en_segs [(4, .iload_n 2, [])] (by decide +kernel) (y := (5, [none, some (.int x1), some (.int x2)], [.int x2], h)) rfl ?_
    refine en_if_eq (by decide +kernel : u_at kl_172 5 = some (.ifCond .eq 15, [20])) (fun b1 => ?_) (fun b1 => ?_)
    · replace hF := i_pos b1 hF
      refine en_segs [(20, .iload_n 1, [])] (by decide +kernel) (y := (21, [none, some (.int x1), some (.int x2)], [.int x1], h)) rfl ?_
      obtain rfl := Option.some.inj hF
      exact en_ret (by decide +kernel : u_at kl_172 21 = some (.ireturn, [0])) rfl (hQ)
    · replace hF := i_neg b1 hF
      refine en_segs [(8, .iinc 1 1, []), (11, .iload_n 2, []), (12, .iload_n 2, []), (13, .iconst 1, []), (14, .isub, []), (15, .iand, []), (16, .istore_n 2, []), (17, .goto (-13), [4])] (by decide +kernel) (y := (4, [none, some (.int (x1 + 1)), some (.int (x2 &&& (x2 - 1)))], [], h)) rfl ?_
      exact (ih _ _ _ _ _ hF) _ _ rfl rfl rfl rfl  _ hW _ hQ
def F_172 (p1 : Int32) : Option Int32 :=
  G_172 0 [0, p1] [] []
set_option maxRecDepth 100000 in
set_option maxHeartbeats 4000000 in
/-- HeadCountsModel.bits -/
theorem e_172 {D : Nat} {c0 c1 c2 c3 c4 c5 c6 c7 c8 c9 c10 c11 c12 c13 : Cl} {d : Ad} {h : UH} {p1 : Int32} {r : Int32} (hD : 1 ≤ D) (hW : HW (mkw c0 c1 c2 c3 c4 c5 c6 c7 c8 c9 c10 c11 c12 c13) d h) (hF : F_172 p1 = some r) : ∃ q, EX D 172 [.int p1] h q ∧ q.1 = some (.int r) ∧ h = q.2 := by
  obtain ⟨D, rfl⟩ : ∃ E, D = E + 1 := ⟨D - 1, by omega⟩
  unfold F_172 at hF
  refine ex_in (kl := kl_172) (nL := 3) rfl (by decide +kernel) (Nat.le_of_ble_eq_true rfl) ?_
  obtain ⟨QQ, hQQ⟩ : ∃ QQ : UR → Prop, QQ = (fun q : UR => q.1 = some (.int r) ∧ h = q.2) := ⟨_, rfl⟩
  rw [← hQQ]
  have hQ : QQ (some (.int r), h) := by rw [hQQ]; exact ⟨rfl, rfl⟩
  clear hQQ
  show Ends (EX D) (u_at kl_172) (0, [some (.int p1), none, none], [], h) QQ
  refine en_segs [(0, .iconst 0, []), (1, .istore_n 1, []), (2, .iload_n 0, []), (3, .istore_n 2, [])] (by decide +kernel) (y := (4, [some (.int p1), some (.int 0), some (.int p1)], [], h)) rfl ?_
  refine en_fg (fg_d (fg_k (fg_k fg_0))) ?_
  exact (g_172 (D := D) hD _ _ _ _ _ hF) _ _ rfl rfl rfl rfl  _ hW _ hQ
def G_173 (a0 : Nat) (lab : Nat) (xs : List Int32) (ys : List Int64) (zs : List Nat) (c12 : Cl) : Option Cl := match lab, xs, ys, zs with
  | 0, [x1, x2], [], [] =>
    if x2 < 0 then
    some c12
    else
    ast c12 0 a0 400 (cI c12 1 a0) (vp_nar .byte ((x1 >>> (x2 &&& 31) : Int32).toInt8.toInt32)) >>= fun c12_2 =>
    some (sI c12_2 1 a0 ((cI c12_2 1 a0) + 1)) >>= fun c12_3 =>
    G_173 a0 0 [x1, x2 + (-8)] [] [] c12_3
  | _, _, _, _ => none
partial_fixpoint
set_option maxRecDepth 100000 in
set_option maxHeartbeats 4000000 in
theorem g_173 {D : Nat} (hD : 1 ≤ D + 1) {c0 c1 c2 c3 c4 c5 c6 c7 c8 c9 c10 c11 c13 : Cl} {d : Ad} {a0 : Nat} (ha0 : aK d a0 = (0, 12, 0)) : ∀ (lab : Nat) (xs : List Int32) (ys : List Int64) (zs : List Nat) (c12 : Cl) (r : Cl), G_173 a0 lab xs ys zs c12 = some r →
    (∀ (x1 : Int32) (x2 : Int32), lab = 0 → xs = [x1, x2] → ys = [] → zs = [] → ∀ h : UH, HW (mkw c0 c1 c2 c3 c4 c5 c6 c7 c8 c9 c10 c11 c12 c13) d h → ∀ QQ : UR → Prop, (∀ h' : UH, HW (mkw c0 c1 c2 c3 c4 c5 c6 c7 c8 c9 c10 c11 r c13) d h' → QQ (none, h')) → Ends (EX D) (u_at kl_173) (3, [some (.ref a0), some (.int x1), some (.int x2)], [], h) QQ) := by
  refine G_173.partial_correctness _ (motive := fun lab xs ys zs c12 r =>
    (∀ (x1 : Int32) (x2 : Int32), lab = 0 → xs = [x1, x2] → ys = [] → zs = [] → ∀ h : UH, HW (mkw c0 c1 c2 c3 c4 c5 c6 c7 c8 c9 c10 c11 c12 c13) d h → ∀ QQ : UR → Prop, (∀ h' : UH, HW (mkw c0 c1 c2 c3 c4 c5 c6 c7 c8 c9 c10 c11 r c13) d h' → QQ (none, h')) → Ends (EX D) (u_at kl_173) (3, [some (.ref a0), some (.int x1), some (.int x2)], [], h) QQ)) ?_
  intro G ih lab xs ys zs c12 r hF
  · intro x1 x2 e1 e2 e3 e4 h hW QQ hQ
    subst e1 e2 e3 e4
    refine en_segs [(3, .iload_n 2, [])] (by decide +kernel) (y := (4, [some (.ref a0), some (.int x1), some (.int x2)], [.int x2], h)) rfl ?_
    refine en_if_lt (by decide +kernel : u_at kl_173 4 = some (.ifCond .lt 32, [36])) (fun b1 => ?_) (fun b1 => ?_)
    · replace hF := i_pos b1 hF
      obtain rfl := Option.some.inj hF
      exact en_ret (by decide +kernel : u_at kl_173 36 = some (.return_, [])) rfl (hQ _ hW)
    · replace hF := i_neg b1 hF
      refine en_segs [(7, .aload_n 0, [])] (by decide +kernel) (y := (8, [some (.ref a0), some (.int x1), some (.int x2)], [.ref a0], h)) rfl ?_
      refine en_get (by decide +kernel : u_at kl_173 8 = some (.getfield 7, [12, 0])) hW ha0 (by decide) rfl ?_
      refine en_segs [(11, .aload_n 0, [])] (by decide +kernel) (y := (12, [some (.ref a0), some (.int x1), some (.int x2)], [.ref a0, .ref (aP d 12 0 a0)], h)) rfl ?_
      refine en_get (by decide +kernel : u_at kl_173 12 = some (.getfield 122, [12, 1])) hW ha0 (by decide) rfl ?_
      refine en_segs [(15, .iload_n 1, []), (16, .iload_n 2, []), (17, .ishr, []), (18, .i2b, [])] (by decide +kernel) (y := (19, [some (.ref a0), some (.int x1), some (.int x2)], [.int ((x1 >>> (x2 &&& 31) : Int32).toInt8.toInt32), .int (cI c12 1 a0), .ref (aP d 12 0 a0)], h)) rfl ?_
      obtain ⟨c12_2, hc12_2, hF⟩ := ob_some hF
      refine en_bast (by decide +kernel : u_at kl_173 19 = some (.bastore, [])) hW ha0 rfl (by decide) hc12_2 (fun h hW => ?_)
      have hW : HW (mkw c0 c1 c2 c3 c4 c5 c6 c7 c8 c9 c10 c11 c12_2 c13) d h := hW
      refine en_segs [(20, .aload_n 0, []), (21, .dup, [])] (by decide +kernel) (y := (22, [some (.ref a0), some (.int x1), some (.int x2)], [.ref a0, .ref a0], h)) rfl ?_
      refine en_get (by decide +kernel : u_at kl_173 22 = some (.getfield 122, [12, 1])) hW ha0 (by decide) rfl ?_
      refine en_segs [(25, .iconst 1, []), (26, .iadd, [])] (by decide +kernel) (y := (27, [some (.ref a0), some (.int x1), some (.int x2)], [.int ((cI c12_2 1 a0) + 1), .ref a0], h)) rfl ?_
      obtain ⟨c12_3, hc12_3, hF⟩ := ob_some hF
      refine en_putI (by decide +kernel : u_at kl_173 27 = some (.putfield 122, [12, 1, 0])) hW ha0 rfl (by decide) rfl (fun h hW => ?_)
      have hW : HW (mkw c0 c1 c2 c3 c4 c5 c6 c7 c8 c9 c10 c11 c12_3 c13) d h := by rw [← Option.some.inj hc12_3]; exact hW
      refine en_segs [(30, .iinc 2 (-8), []), (33, .goto (-30), [3])] (by decide +kernel) (y := (3, [some (.ref a0), some (.int x1), some (.int (x2 + (-8)))], [], h)) rfl ?_
      exact (ih _ _ _ _ _ _ hF) _ _ rfl rfl rfl rfl  _ hW _ hQ
def F_173 (c12 : Cl) (a0 : Nat) (p1 : Int32) : Option Cl :=
  G_173 a0 0 [p1, 24] [] [] c12
set_option maxRecDepth 100000 in
set_option maxHeartbeats 4000000 in
/-- HeadCountsModel.four -/
theorem e_173 {D : Nat} {c0 c1 c2 c3 c4 c5 c6 c7 c8 c9 c10 c11 c12 c13 : Cl} {d : Ad} {h : UH} {a0 : Nat} {p1 : Int32} {r : Cl} (hD : 1 ≤ D) (hW : HW (mkw c0 c1 c2 c3 c4 c5 c6 c7 c8 c9 c10 c11 c12 c13) d h) (ha0 : aK d a0 = (0, 12, 0)) (hF : F_173 c12 a0 p1 = some r) : ∃ q, EX D 173 [.ref a0, .int p1] h q ∧ q.1 = none ∧ HW (mkw c0 c1 c2 c3 c4 c5 c6 c7 c8 c9 c10 c11 r c13) d q.2 := by
  obtain ⟨D, rfl⟩ : ∃ E, D = E + 1 := ⟨D - 1, by omega⟩
  unfold F_173 at hF
  refine ex_in (kl := kl_173) (nL := 3) rfl (by decide +kernel) (Nat.le_of_ble_eq_true rfl) ?_
  obtain ⟨QQ, hQQ⟩ : ∃ QQ : UR → Prop, QQ = (fun q : UR => q.1 = none ∧ HW (mkw c0 c1 c2 c3 c4 c5 c6 c7 c8 c9 c10 c11 r c13) d q.2) := ⟨_, rfl⟩
  rw [← hQQ]
  have hQ : ∀ h' : UH, HW (mkw c0 c1 c2 c3 c4 c5 c6 c7 c8 c9 c10 c11 r c13) d h' → QQ (none, h') := fun h' p => by rw [hQQ]; exact ⟨rfl, p⟩
  clear hQQ
  show Ends (EX D) (u_at kl_173) (0, [some (.ref a0), some (.int p1), none], [], h) QQ
  refine en_segs [(0, .bipush 24, []), (2, .istore_n 2, [])] (by decide +kernel) (y := (3, [some (.ref a0), some (.int p1), some (.int 24)], [], h)) rfl ?_
  exact (g_173 (D := D) hD ha0 _ _ _ _ _ _ hF) _ _ rfl rfl rfl rfl  _ hW _ hQ
def F_174 (c12 : Cl) (a0 : Nat) (p1 : Int32) (p2 : Int32) (p3 : Int32) (p4 : Int32) (p5 : Int32) : Option (Int32 × Cl) :=
  if ((cI c12 1 a0) + 20) ≤ 400 then
  F_173 c12 a0 p1 >>= fun r2 =>
  F_173 r2 a0 p2 >>= fun r3 =>
  F_173 r3 a0 p3 >>= fun r4 =>
  F_173 r4 a0 p4 >>= fun r5 =>
  F_173 r5 a0 p5 >>= fun r6 =>
  some (cI r6 1 a0, r6)
  else
  some ((-1), c12)
set_option maxRecDepth 100000 in
set_option maxHeartbeats 4000000 in
/-- HeadCountsModel.feed -/
theorem e_174 {D : Nat} {c0 c1 c2 c3 c4 c5 c6 c7 c8 c9 c10 c11 c12 c13 : Cl} {d : Ad} {h : UH} {a0 : Nat} {p1 : Int32} {p2 : Int32} {p3 : Int32} {p4 : Int32} {p5 : Int32} {r : (Int32 × Cl)} (hD : 2 ≤ D) (hW : HW (mkw c0 c1 c2 c3 c4 c5 c6 c7 c8 c9 c10 c11 c12 c13) d h) (ha0 : aK d a0 = (0, 12, 0)) (hF : F_174 c12 a0 p1 p2 p3 p4 p5 = some r) : ∃ q, EX D 174 [.ref a0, .int p1, .int p2, .int p3, .int p4, .int p5] h q ∧ q.1 = some (.int r.1) ∧ HW (mkw c0 c1 c2 c3 c4 c5 c6 c7 c8 c9 c10 c11 r.2 c13) d q.2 := by
  obtain ⟨D, rfl⟩ : ∃ E, D = E + 1 := ⟨D - 1, by omega⟩
  unfold F_174 at hF
  refine ex_in (kl := kl_174) (nL := 6) rfl (by decide +kernel) (Nat.le_of_ble_eq_true rfl) ?_
  obtain ⟨QQ, hQQ⟩ : ∃ QQ : UR → Prop, QQ = (fun q : UR => q.1 = some (.int r.1) ∧ HW (mkw c0 c1 c2 c3 c4 c5 c6 c7 c8 c9 c10 c11 r.2 c13) d q.2) := ⟨_, rfl⟩
  rw [← hQQ]
  have hQ : ∀ h' : UH, HW (mkw c0 c1 c2 c3 c4 c5 c6 c7 c8 c9 c10 c11 r.2 c13) d h' → QQ (some (.int r.1), h') := fun h' p => by rw [hQQ]; exact ⟨rfl, p⟩
  clear hQQ
  show Ends (EX D) (u_at kl_174) (0, [some (.ref a0), some (.int p1), some (.int p2), some (.int p3), some (.int p4), some (.int p5)], [], h) QQ
  refine en_segs [(0, .aload_n 0, [])] (by decide +kernel) (y := (1, [some (.ref a0), some (.int p1), some (.int p2), some (.int p3), some (.int p4), some (.int p5)], [.ref a0], h)) rfl ?_
  refine en_get (by decide +kernel : u_at kl_174 1 = some (.getfield 122, [12, 1])) hW ha0 (by decide) rfl ?_
  refine en_segs [(4, .bipush 20, []), (6, .iadd, []), (7, .sipush 400, [])] (by decide +kernel) (y := (10, [some (.ref a0), some (.int p1), some (.int p2), some (.int p3), some (.int p4), some (.int p5)], [.int 400, .int ((cI c12 1 a0) + 20)], h)) rfl ?_
  refine en_ic_le (by decide +kernel : u_at kl_174 10 = some (.if_icmp .le 5, [15])) (fun b1 => ?_) (fun b1 => ?_)
  · replace hF := i_pos b1 hF
    refine en_segs [(15, .aload_n 0, []), (16, .iload_n 1, [])] (by decide +kernel) (y := (17, [some (.ref a0), some (.int p1), some (.int p2), some (.int p3), some (.int p4), some (.int p5)], [.int p1, .ref a0], h)) rfl ?_
    obtain ⟨r2, hr2, hF⟩ := ob_some hF
    refine en_vv (r := []) (by decide +kernel : u_at kl_174 17 = some (.invokevirtual 126, [173, 1, 12])) hW ha0 rfl rfl (Nat.le_of_ble_eq_true rfl) (e_173 (D := D) (by omega) hW ha0 hr2) (fun h hW => ?_)
    have hW : HW (mkw c0 c1 c2 c3 c4 c5 c6 c7 c8 c9 c10 c11 r2 c13) d h := hW
    refine en_segs [(20, .aload_n 0, []), (21, .iload_n 2, [])] (by decide +kernel) (y := (22, [some (.ref a0), some (.int p1), some (.int p2), some (.int p3), some (.int p4), some (.int p5)], [.int p2, .ref a0], h)) rfl ?_
    obtain ⟨r3, hr3, hF⟩ := ob_some hF
    refine en_vv (r := []) (by decide +kernel : u_at kl_174 22 = some (.invokevirtual 126, [173, 1, 12])) hW ha0 rfl rfl (Nat.le_of_ble_eq_true rfl) (e_173 (D := D) (by omega) hW ha0 hr3) (fun h hW => ?_)
    have hW : HW (mkw c0 c1 c2 c3 c4 c5 c6 c7 c8 c9 c10 c11 r3 c13) d h := hW
    refine en_segs [(25, .aload_n 0, []), (26, .iload_n 3, [])] (by decide +kernel) (y := (27, [some (.ref a0), some (.int p1), some (.int p2), some (.int p3), some (.int p4), some (.int p5)], [.int p3, .ref a0], h)) rfl ?_
    obtain ⟨r4, hr4, hF⟩ := ob_some hF
    refine en_vv (r := []) (by decide +kernel : u_at kl_174 27 = some (.invokevirtual 126, [173, 1, 12])) hW ha0 rfl rfl (Nat.le_of_ble_eq_true rfl) (e_173 (D := D) (by omega) hW ha0 hr4) (fun h hW => ?_)
    have hW : HW (mkw c0 c1 c2 c3 c4 c5 c6 c7 c8 c9 c10 c11 r4 c13) d h := hW
    refine en_segs [(30, .aload_n 0, []), (31, .iload 4, [])] (by decide +kernel) (y := (33, [some (.ref a0), some (.int p1), some (.int p2), some (.int p3), some (.int p4), some (.int p5)], [.int p4, .ref a0], h)) rfl ?_
    obtain ⟨r5, hr5, hF⟩ := ob_some hF
    refine en_vv (r := []) (by decide +kernel : u_at kl_174 33 = some (.invokevirtual 126, [173, 1, 12])) hW ha0 rfl rfl (Nat.le_of_ble_eq_true rfl) (e_173 (D := D) (by omega) hW ha0 hr5) (fun h hW => ?_)
    have hW : HW (mkw c0 c1 c2 c3 c4 c5 c6 c7 c8 c9 c10 c11 r5 c13) d h := hW
    refine en_segs [(36, .aload_n 0, []), (37, .iload 5, [])] (by decide +kernel) (y := (39, [some (.ref a0), some (.int p1), some (.int p2), some (.int p3), some (.int p4), some (.int p5)], [.int p5, .ref a0], h)) rfl ?_
    obtain ⟨r6, hr6, hF⟩ := ob_some hF
    refine en_vv (r := []) (by decide +kernel : u_at kl_174 39 = some (.invokevirtual 126, [173, 1, 12])) hW ha0 rfl rfl (Nat.le_of_ble_eq_true rfl) (e_173 (D := D) (by omega) hW ha0 hr6) (fun h hW => ?_)
    have hW : HW (mkw c0 c1 c2 c3 c4 c5 c6 c7 c8 c9 c10 c11 r6 c13) d h := hW
    refine en_segs [(42, .aload_n 0, [])] (by decide +kernel) (y := (43, [some (.ref a0), some (.int p1), some (.int p2), some (.int p3), some (.int p4), some (.int p5)], [.ref a0], h)) rfl ?_
    refine en_get (by decide +kernel : u_at kl_174 43 = some (.getfield 122, [12, 1])) hW ha0 (by decide) rfl ?_
    obtain rfl := Option.some.inj hF
    exact en_ret (by decide +kernel : u_at kl_174 46 = some (.ireturn, [0])) rfl (hQ _ hW)
  · replace hF := i_neg b1 hF
    refine en_segs [(13, .iconst (-1), [])] (by decide +kernel) (y := (14, [some (.ref a0), some (.int p1), some (.int p2), some (.int p3), some (.int p4), some (.int p5)], [.int (-1)], h)) rfl ?_
    obtain rfl := Option.some.inj hF
    exact en_ret (by decide +kernel : u_at kl_174 14 = some (.ireturn, [0])) rfl (hQ _ hW)
def F_175 (c12 : Cl) (a0 : Nat) (p1 : Int32) : Option (Int32 × Cl) :=
  if p1 < 0 then
  some ((-1), c12)
  else
  if p1 ≤ (cI c12 1 a0) then
  some (sI c12 1 a0 p1) >>= fun c12_3 =>
  some (p1, c12_3)
  else
  some ((-1), c12)
set_option maxRecDepth 100000 in
set_option maxHeartbeats 4000000 in
/-- HeadCountsModel.end -/
theorem e_175 {D : Nat} {c0 c1 c2 c3 c4 c5 c6 c7 c8 c9 c10 c11 c12 c13 : Cl} {d : Ad} {h : UH} {a0 : Nat} {p1 : Int32} {r : (Int32 × Cl)} (hD : 1 ≤ D) (hW : HW (mkw c0 c1 c2 c3 c4 c5 c6 c7 c8 c9 c10 c11 c12 c13) d h) (ha0 : aK d a0 = (0, 12, 0)) (hF : F_175 c12 a0 p1 = some r) : ∃ q, EX D 175 [.ref a0, .int p1] h q ∧ q.1 = some (.int r.1) ∧ HW (mkw c0 c1 c2 c3 c4 c5 c6 c7 c8 c9 c10 c11 r.2 c13) d q.2 := by
  obtain ⟨D, rfl⟩ : ∃ E, D = E + 1 := ⟨D - 1, by omega⟩
  unfold F_175 at hF
  refine ex_in (kl := kl_175) (nL := 2) rfl (by decide +kernel) (Nat.le_of_ble_eq_true rfl) ?_
  obtain ⟨QQ, hQQ⟩ : ∃ QQ : UR → Prop, QQ = (fun q : UR => q.1 = some (.int r.1) ∧ HW (mkw c0 c1 c2 c3 c4 c5 c6 c7 c8 c9 c10 c11 r.2 c13) d q.2) := ⟨_, rfl⟩
  rw [← hQQ]
  have hQ : ∀ h' : UH, HW (mkw c0 c1 c2 c3 c4 c5 c6 c7 c8 c9 c10 c11 r.2 c13) d h' → QQ (some (.int r.1), h') := fun h' p => by rw [hQQ]; exact ⟨rfl, p⟩
  clear hQQ
  show Ends (EX D) (u_at kl_175) (0, [some (.ref a0), some (.int p1)], [], h) QQ
  refine en_segs [(0, .iload_n 1, [])] (by decide +kernel) (y := (1, [some (.ref a0), some (.int p1)], [.int p1], h)) rfl ?_
  refine en_if_lt (by decide +kernel : u_at kl_175 1 = some (.ifCond .lt 11, [12])) (fun b1 => ?_) (fun b1 => ?_)
  · replace hF := i_pos b1 hF
    refine en_segs [(12, .iconst (-1), [])] (by decide +kernel) (y := (13, [some (.ref a0), some (.int p1)], [.int (-1)], h)) rfl ?_
    obtain rfl := Option.some.inj hF
    exact en_ret (by decide +kernel : u_at kl_175 13 = some (.ireturn, [0])) rfl (hQ _ hW)
  · replace hF := i_neg b1 hF
    refine en_segs [(4, .iload_n 1, []), (5, .aload_n 0, [])] (by decide +kernel) (y := (6, [some (.ref a0), some (.int p1)], [.ref a0, .int p1], h)) rfl ?_
    refine en_get (by decide +kernel : u_at kl_175 6 = some (.getfield 122, [12, 1])) hW ha0 (by decide) rfl ?_
    refine en_ic_le (by decide +kernel : u_at kl_175 9 = some (.if_icmp .le 5, [14])) (fun b2 => ?_) (fun b2 => ?_)
    · replace hF := i_pos b2 hF
      refine en_segs [(14, .aload_n 0, []), (15, .iload_n 1, [])] (by decide +kernel) (y := (16, [some (.ref a0), some (.int p1)], [.int p1, .ref a0], h)) rfl ?_
      obtain ⟨c12_3, hc12_3, hF⟩ := ob_some hF
      refine en_putI (by decide +kernel : u_at kl_175 16 = some (.putfield 122, [12, 1, 0])) hW ha0 rfl (by decide) rfl (fun h hW => ?_)
      have hW : HW (mkw c0 c1 c2 c3 c4 c5 c6 c7 c8 c9 c10 c11 c12_3 c13) d h := by rw [← Option.some.inj hc12_3]; exact hW
      refine en_segs [(19, .iload_n 1, [])] (by decide +kernel) (y := (20, [some (.ref a0), some (.int p1)], [.int p1], h)) rfl ?_
      obtain rfl := Option.some.inj hF
      exact en_ret (by decide +kernel : u_at kl_175 20 = some (.ireturn, [0])) rfl (hQ _ hW)
    · replace hF := i_neg b2 hF
      refine en_segs [(12, .iconst (-1), [])] (by decide +kernel) (y := (13, [some (.ref a0), some (.int p1)], [.int (-1)], h)) rfl ?_
      obtain rfl := Option.some.inj hF
      exact en_ret (by decide +kernel : u_at kl_175 13 = some (.ireturn, [0])) rfl (hQ _ hW)
def F_176 (c12 : Cl) (a0 : Nat) (p1 : Int32) (p2 : Int32) : Option (Int32 × Cl) :=
  ((if (cI c12 9 a0) = 0 then
  some (sI c12 9 a0 ((1 + (8 * p2)) + p1)) >>= fun c12_4 =>
  some c12_4
  else
  some c12) : Option (Cl)) >>= fun (t1 : Cl) =>
  some (0, t1)
set_option maxRecDepth 100000 in
set_option maxHeartbeats 4000000 in
/-- HeadCountsModel.fails -/
theorem e_176 {D : Nat} {c0 c1 c2 c3 c4 c5 c6 c7 c8 c9 c10 c11 c12 c13 : Cl} {d : Ad} {h : UH} {a0 : Nat} {p1 : Int32} {p2 : Int32} {r : (Int32 × Cl)} (hD : 1 ≤ D) (hW : HW (mkw c0 c1 c2 c3 c4 c5 c6 c7 c8 c9 c10 c11 c12 c13) d h) (ha0 : aK d a0 = (0, 12, 0)) (hF : F_176 c12 a0 p1 p2 = some r) : ∃ q, EX D 176 [.ref a0, .int p1, .int p2] h q ∧ q.1 = some (.int r.1) ∧ HW (mkw c0 c1 c2 c3 c4 c5 c6 c7 c8 c9 c10 c11 r.2 c13) d q.2 := by
  obtain ⟨D, rfl⟩ : ∃ E, D = E + 1 := ⟨D - 1, by omega⟩
  unfold F_176 at hF
  refine ex_in (kl := kl_176) (nL := 3) rfl (by decide +kernel) (Nat.le_of_ble_eq_true rfl) ?_
  obtain ⟨QQ, hQQ⟩ : ∃ QQ : UR → Prop, QQ = (fun q : UR => q.1 = some (.int r.1) ∧ HW (mkw c0 c1 c2 c3 c4 c5 c6 c7 c8 c9 c10 c11 r.2 c13) d q.2) := ⟨_, rfl⟩
  rw [← hQQ]
  have hQ : ∀ h' : UH, HW (mkw c0 c1 c2 c3 c4 c5 c6 c7 c8 c9 c10 c11 r.2 c13) d h' → QQ (some (.int r.1), h') := fun h' p => by rw [hQQ]; exact ⟨rfl, p⟩
  clear hQQ
  show Ends (EX D) (u_at kl_176) (0, [some (.ref a0), some (.int p1), some (.int p2)], [], h) QQ
  refine en_segs [(0, .aload_n 0, [])] (by decide +kernel) (y := (1, [some (.ref a0), some (.int p1), some (.int p2)], [.ref a0], h)) rfl ?_
  refine en_get (by decide +kernel : u_at kl_176 1 = some (.getfield 130, [12, 9])) hW ha0 (by decide) rfl ?_
  obtain ⟨t1, hX, hK⟩ := ob_some hF
  have j2 : ∀ h : UH, HW (mkw c0 c1 c2 c3 c4 c5 c6 c7 c8 c9 c10 c11 t1 c13) d h → Ends (EX D) (u_at kl_176) (19, [some (.ref a0), some (.int p1), some (.int p2)], [], h) QQ := by
    intro h hW
    have hF := hK
    refine en_segs [(19, .iconst 0, [])] (by decide +kernel) (y := (20, [some (.ref a0), some (.int p1), some (.int p2)], [.int 0], h)) rfl ?_
    obtain rfl := Option.some.inj hF
    exact en_ret (by decide +kernel : u_at kl_176 20 = some (.ireturn, [1])) rfl (hQ _ hW)
  have hF := hX
  refine en_if_ne (by decide +kernel : u_at kl_176 4 = some (.ifCond .ne 15, [19])) (fun b3 => ?_) (fun b3 => ?_)
  · replace hF := i_pos b3 hF
    refine en_segs [(7, .aload_n 0, []), (8, .iconst 1, []), (9, .bipush 8, []), (11, .iload_n 2, []), (12, .imul, []), (13, .iadd, []), (14, .iload_n 1, []), (15, .iadd, [])] (by decide +kernel) (y := (16, [some (.ref a0), some (.int p1), some (.int p2)], [.int ((1 + (8 * p2)) + p1), .ref a0], h)) rfl ?_
    obtain ⟨c12_4, hc12_4, hF⟩ := ob_some hF
    refine en_putI (by decide +kernel : u_at kl_176 16 = some (.putfield 130, [12, 9, 0])) hW ha0 rfl (by decide) rfl (fun h hW => ?_)
    have hW : HW (mkw c0 c1 c2 c3 c4 c5 c6 c7 c8 c9 c10 c11 c12_4 c13) d h := by rw [← Option.some.inj hc12_4]; exact hW
    obtain rfl := Option.some.inj hF
    exact j2 _ hW
  · replace hF := i_neg b3 hF
    obtain rfl := Option.some.inj hF
    exact j2 _ hW
def G_177 (a0 : Nat) (lab : Nat) (xs : List Int32) (ys : List Int64) (zs : List Nat) (c12 : Cl) : Option (Int32 × Cl) := match lab, xs, ys, zs with
  | 0, [], [], [] =>
    if (cI c12 1 a0) ≤ (cI c12 8 a0) then
    G_177 a0 1 [] [] [] c12
    else
    ald (cA c12 0 a0) 400 (cI c12 8 a0) >>= fun v2 =>
    if v2 = 32 then
    some (sI c12 8 a0 ((cI c12 8 a0) + 1)) >>= fun c12_4 =>
    G_177 a0 0 [] [] [] c12_4
    else
    G_177 a0 1 [] [] [] c12
  | 1, [], [], [] =>
    ((if (cI c12 1 a0) ≤ (cI c12 8 a0) then
    some (-1)
    else
    ald (cA c12 0 a0) 400 (cI c12 8 a0) >>= fun v8 =>
    some (v8 &&& 255)) : Option (Int32)) >>= fun (t5 : Int32) =>
    some (t5, c12)
  | _, _, _, _ => none
partial_fixpoint
set_option maxRecDepth 100000 in
set_option maxHeartbeats 4000000 in
theorem g_177 {D : Nat} (hD : 1 ≤ D + 1) {c0 c1 c2 c3 c4 c5 c6 c7 c8 c9 c10 c11 c13 : Cl} {d : Ad} {a0 : Nat} (ha0 : aK d a0 = (0, 12, 0)) : ∀ (lab : Nat) (xs : List Int32) (ys : List Int64) (zs : List Nat) (c12 : Cl) (r : (Int32 × Cl)), G_177 a0 lab xs ys zs c12 = some r →
    (∀ (_ : Unit), lab = 0 → xs = [] → ys = [] → zs = [] → ∀ h : UH, HW (mkw c0 c1 c2 c3 c4 c5 c6 c7 c8 c9 c10 c11 c12 c13) d h → ∀ QQ : UR → Prop, (∀ h' : UH, HW (mkw c0 c1 c2 c3 c4 c5 c6 c7 c8 c9 c10 c11 r.2 c13) d h' → QQ (some (.int r.1), h')) → Ends (EX D) (u_at kl_177) (0, [some (.ref a0)], [], h) QQ) ∧
    (∀ (_ : Unit), lab = 1 → xs = [] → ys = [] → zs = [] → ∀ h : UH, HW (mkw c0 c1 c2 c3 c4 c5 c6 c7 c8 c9 c10 c11 c12 c13) d h → ∀ QQ : UR → Prop, (∀ h' : UH, HW (mkw c0 c1 c2 c3 c4 c5 c6 c7 c8 c9 c10 c11 r.2 c13) d h' → QQ (some (.int r.1), h')) → Ends (EX D) (u_at kl_177) (38, [some (.ref a0)], [], h) QQ) := by
  refine G_177.partial_correctness _ (motive := fun lab xs ys zs c12 r =>
    (∀ (_ : Unit), lab = 0 → xs = [] → ys = [] → zs = [] → ∀ h : UH, HW (mkw c0 c1 c2 c3 c4 c5 c6 c7 c8 c9 c10 c11 c12 c13) d h → ∀ QQ : UR → Prop, (∀ h' : UH, HW (mkw c0 c1 c2 c3 c4 c5 c6 c7 c8 c9 c10 c11 r.2 c13) d h' → QQ (some (.int r.1), h')) → Ends (EX D) (u_at kl_177) (0, [some (.ref a0)], [], h) QQ) ∧
    (∀ (_ : Unit), lab = 1 → xs = [] → ys = [] → zs = [] → ∀ h : UH, HW (mkw c0 c1 c2 c3 c4 c5 c6 c7 c8 c9 c10 c11 c12 c13) d h → ∀ QQ : UR → Prop, (∀ h' : UH, HW (mkw c0 c1 c2 c3 c4 c5 c6 c7 c8 c9 c10 c11 r.2 c13) d h' → QQ (some (.int r.1), h')) → Ends (EX D) (u_at kl_177) (38, [some (.ref a0)], [], h) QQ)) ?_
  intro G ih lab xs ys zs c12 r hF
  refine ⟨?_, ?_⟩
  · intro _ e1 e2 e3 e4 h hW QQ hQ
    subst e1 e2 e3 e4
    refine en_segs [(0, .aload_n 0, [])] (by decide +kernel) (y := (1, [some (.ref a0)], [.ref a0], h)) rfl ?_
    refine en_get (by decide +kernel : u_at kl_177 1 = some (.getfield 133, [12, 8])) hW ha0 (by decide) rfl ?_
    refine en_segs [(4, .aload_n 0, [])] (by decide +kernel) (y := (5, [some (.ref a0)], [.ref a0, .int (cI c12 8 a0)], h)) rfl ?_
    refine en_get (by decide +kernel : u_at kl_177 5 = some (.getfield 122, [12, 1])) hW ha0 (by decide) rfl ?_
    refine en_ic_ge (by decide +kernel : u_at kl_177 8 = some (.if_icmp .ge 30, [38])) (fun b1 => ?_) (fun b1 => ?_)
    · replace hF := i_pos b1 hF
      exact (ih _ _ _ _ _ _ hF).2 () rfl rfl rfl rfl  _ hW _ hQ
    · replace hF := i_neg b1 hF
      refine en_segs [(11, .aload_n 0, [])] (by decide +kernel) (y := (12, [some (.ref a0)], [.ref a0], h)) rfl ?_
      refine en_get (by decide +kernel : u_at kl_177 12 = some (.getfield 7, [12, 0])) hW ha0 (by decide) rfl ?_
      refine en_segs [(15, .aload_n 0, [])] (by decide +kernel) (y := (16, [some (.ref a0)], [.ref a0, .ref (aP d 12 0 a0)], h)) rfl ?_
      refine en_get (by decide +kernel : u_at kl_177 16 = some (.getfield 133, [12, 8])) hW ha0 (by decide) rfl ?_
      obtain ⟨v2, hv2, hF⟩ := ob_some hF
      refine en_bald (by decide +kernel : u_at kl_177 19 = some (.baload, [])) hW ha0 rfl (by decide) hv2 ?_
      refine en_segs [(20, .bipush 32, [])] (by decide +kernel) (y := (22, [some (.ref a0)], [.int 32, .int v2], h)) rfl ?_
      refine en_ic_ne (by decide +kernel : u_at kl_177 22 = some (.if_icmp .ne 16, [38])) (fun b3 => ?_) (fun b3 => ?_)
      · replace hF := i_pos b3 hF
        refine en_segs [(25, .aload_n 0, []), (26, .dup, [])] (by decide +kernel) (y := (27, [some (.ref a0)], [.ref a0, .ref a0], h)) rfl ?_
        refine en_get (by decide +kernel : u_at kl_177 27 = some (.getfield 133, [12, 8])) hW ha0 (by decide) rfl ?_
        refine en_segs [(30, .iconst 1, []), (31, .iadd, [])] (by decide +kernel) (y := (32, [some (.ref a0)], [.int ((cI c12 8 a0) + 1), .ref a0], h)) rfl ?_
        obtain ⟨c12_4, hc12_4, hF⟩ := ob_some hF
        refine en_putI (by decide +kernel : u_at kl_177 32 = some (.putfield 133, [12, 8, 0])) hW ha0 rfl (by decide) rfl (fun h hW => ?_)
        have hW : HW (mkw c0 c1 c2 c3 c4 c5 c6 c7 c8 c9 c10 c11 c12_4 c13) d h := by rw [← Option.some.inj hc12_4]; exact hW
        refine en_segs [(35, .goto (-35), [0])] (by decide +kernel) (y := (0, [some (.ref a0)], [], h)) rfl ?_
        exact (ih _ _ _ _ _ _ hF).1 () rfl rfl rfl rfl  _ hW _ hQ
      · replace hF := i_neg b3 hF
        exact (ih _ _ _ _ _ _ hF).2 () rfl rfl rfl rfl  _ hW _ hQ
  · intro _ e1 e2 e3 e4 h hW QQ hQ
    subst e1 e2 e3 e4
    refine en_segs [(38, .aload_n 0, [])] (by decide +kernel) (y := (39, [some (.ref a0)], [.ref a0], h)) rfl ?_
    refine en_get (by decide +kernel : u_at kl_177 39 = some (.getfield 133, [12, 8])) hW ha0 (by decide) rfl ?_
    refine en_segs [(42, .aload_n 0, [])] (by decide +kernel) (y := (43, [some (.ref a0)], [.ref a0, .int (cI c12 8 a0)], h)) rfl ?_
    refine en_get (by decide +kernel : u_at kl_177 43 = some (.getfield 122, [12, 1])) hW ha0 (by decide) rfl ?_
    obtain ⟨t5, hX, hK⟩ := ob_some hF
    have j6 : ∀ h : UH, HW (mkw c0 c1 c2 c3 c4 c5 c6 c7 c8 c9 c10 c11 c12 c13) d h → Ends (EX D) (u_at kl_177) (66, [some (.ref a0)], [.int t5], h) QQ := by
      intro h hW
      have hF := hK
      obtain rfl := Option.some.inj hF
      exact en_ret (by decide +kernel : u_at kl_177 66 = some (.ireturn, [0])) rfl (hQ _ hW)
    have hF := hX
    refine en_ic_ge (by decide +kernel : u_at kl_177 46 = some (.if_icmp .ge 19, [65])) (fun b7 => ?_) (fun b7 => ?_)
    · replace hF := i_pos b7 hF
      refine en_segs [(65, .iconst (-1), [])] (by decide +kernel) (y := (66, [some (.ref a0)], [.int (-1)], h)) rfl ?_
      obtain rfl := Option.some.inj hF
      exact j6 _ hW
    · replace hF := i_neg b7 hF
      refine en_segs [(49, .aload_n 0, [])] (by decide +kernel) (y := (50, [some (.ref a0)], [.ref a0], h)) rfl ?_
      refine en_get (by decide +kernel : u_at kl_177 50 = some (.getfield 7, [12, 0])) hW ha0 (by decide) rfl ?_
      refine en_segs [(53, .aload_n 0, [])] (by decide +kernel) (y := (54, [some (.ref a0)], [.ref a0, .ref (aP d 12 0 a0)], h)) rfl ?_
      refine en_get (by decide +kernel : u_at kl_177 54 = some (.getfield 133, [12, 8])) hW ha0 (by decide) rfl ?_
      obtain ⟨v8, hv8, hF⟩ := ob_some hF
      refine en_bald (by decide +kernel : u_at kl_177 57 = some (.baload, [])) hW ha0 rfl (by decide) hv8 ?_
      refine en_segs [(58, .sipush 255, []), (61, .iand, []), (62, .goto 4, [66])] (by decide +kernel) (y := (66, [some (.ref a0)], [.int (v8 &&& 255)], h)) rfl ?_
      obtain rfl := Option.some.inj hF
      exact j6 _ hW
def F_177 (c12 : Cl) (a0 : Nat) : Option (Int32 × Cl) :=
  G_177 a0 0 [] [] [] c12
set_option maxRecDepth 100000 in
set_option maxHeartbeats 4000000 in
/-- HeadCountsModel.see -/
theorem e_177 {D : Nat} {c0 c1 c2 c3 c4 c5 c6 c7 c8 c9 c10 c11 c12 c13 : Cl} {d : Ad} {h : UH} {a0 : Nat} {r : (Int32 × Cl)} (hD : 1 ≤ D) (hW : HW (mkw c0 c1 c2 c3 c4 c5 c6 c7 c8 c9 c10 c11 c12 c13) d h) (ha0 : aK d a0 = (0, 12, 0)) (hF : F_177 c12 a0 = some r) : ∃ q, EX D 177 [.ref a0] h q ∧ q.1 = some (.int r.1) ∧ HW (mkw c0 c1 c2 c3 c4 c5 c6 c7 c8 c9 c10 c11 r.2 c13) d q.2 := by
  obtain ⟨D, rfl⟩ : ∃ E, D = E + 1 := ⟨D - 1, by omega⟩
  unfold F_177 at hF
  refine ex_in (kl := kl_177) (nL := 1) rfl (by decide +kernel) (Nat.le_of_ble_eq_true rfl) ?_
  obtain ⟨QQ, hQQ⟩ : ∃ QQ : UR → Prop, QQ = (fun q : UR => q.1 = some (.int r.1) ∧ HW (mkw c0 c1 c2 c3 c4 c5 c6 c7 c8 c9 c10 c11 r.2 c13) d q.2) := ⟨_, rfl⟩
  rw [← hQQ]
  have hQ : ∀ h' : UH, HW (mkw c0 c1 c2 c3 c4 c5 c6 c7 c8 c9 c10 c11 r.2 c13) d h' → QQ (some (.int r.1), h') := fun h' p => by rw [hQQ]; exact ⟨rfl, p⟩
  clear hQQ
  show Ends (EX D) (u_at kl_177) (0, [some (.ref a0)], [], h) QQ
  exact (g_177 (D := D) hD ha0 _ _ _ _ _ _ hF).1 () rfl rfl rfl rfl  _ hW _ hQ
def F_178 (c12 : Cl) (a0 : Nat) (p1 : Int32) : Option Int32 :=
  ((if (cI c12 1 a0) ≤ p1 then
  some 0
  else
  ald (cA c12 0 a0) 400 p1 >>= fun v5 =>
  if v5 < 48 then
  some 0
  else
  ald (cA c12 0 a0) 400 p1 >>= fun v7 =>
  if 57 < v7 then
  some 0
  else
  some 1) : Option (Int32)) >>= fun (t1 : Int32) =>
  zb t1 >>= fun z3 => some z3
set_option maxRecDepth 100000 in
set_option maxHeartbeats 4000000 in
/-- HeadCountsModel.isDigit -/
theorem e_178 {D : Nat} {c0 c1 c2 c3 c4 c5 c6 c7 c8 c9 c10 c11 c12 c13 : Cl} {d : Ad} {h : UH} {a0 : Nat} {p1 : Int32} {r : Int32} (hD : 1 ≤ D) (hW : HW (mkw c0 c1 c2 c3 c4 c5 c6 c7 c8 c9 c10 c11 c12 c13) d h) (ha0 : aK d a0 = (0, 12, 0)) (hF : F_178 c12 a0 p1 = some r) : ∃ q, EX D 178 [.ref a0, .int p1] h q ∧ q.1 = some (.int r) ∧ h = q.2 := by
  obtain ⟨D, rfl⟩ : ∃ E, D = E + 1 := ⟨D - 1, by omega⟩
  unfold F_178 at hF
  refine ex_in (kl := kl_178) (nL := 2) rfl (by decide +kernel) (Nat.le_of_ble_eq_true rfl) ?_
  obtain ⟨QQ, hQQ⟩ : ∃ QQ : UR → Prop, QQ = (fun q : UR => q.1 = some (.int r) ∧ h = q.2) := ⟨_, rfl⟩
  rw [← hQQ]
  have hQ : QQ (some (.int r), h) := by rw [hQQ]; exact ⟨rfl, rfl⟩
  clear hQQ
  show Ends (EX D) (u_at kl_178) (0, [some (.ref a0), some (.int p1)], [], h) QQ
  refine en_segs [(0, .iload_n 1, []), (1, .aload_n 0, [])] (by decide +kernel) (y := (2, [some (.ref a0), some (.int p1)], [.ref a0, .int p1], h)) rfl ?_
  refine en_get (by decide +kernel : u_at kl_178 2 = some (.getfield 122, [12, 1])) hW ha0 (by decide) rfl ?_
  obtain ⟨t1, hX, hK⟩ := ob_some hF
  have j2 : Ends (EX D) (u_at kl_178) (35, [some (.ref a0), some (.int p1)], [.int t1], h) QQ := by
    have hF := hK
    obtain ⟨z3, hz3, hF⟩ := ob_some hF
    obtain rfl := Option.some.inj hF
    exact en_retZ (by decide +kernel : u_at kl_178 35 = some (.ireturn, [1])) hz3 (hQ)
  have hF := hX
  refine en_ic_ge (by decide +kernel : u_at kl_178 5 = some (.if_icmp .ge 29, [34])) (fun b4 => ?_) (fun b4 => ?_)
  · replace hF := i_pos b4 hF
    refine en_segs [(34, .iconst 0, [])] (by decide +kernel) (y := (35, [some (.ref a0), some (.int p1)], [.int 0], h)) rfl ?_
    obtain rfl := Option.some.inj hF
    exact j2
  · replace hF := i_neg b4 hF
    refine en_segs [(8, .aload_n 0, [])] (by decide +kernel) (y := (9, [some (.ref a0), some (.int p1)], [.ref a0], h)) rfl ?_
    refine en_get (by decide +kernel : u_at kl_178 9 = some (.getfield 7, [12, 0])) hW ha0 (by decide) rfl ?_
    refine en_segs [(12, .iload_n 1, [])] (by decide +kernel) (y := (13, [some (.ref a0), some (.int p1)], [.int p1, .ref (aP d 12 0 a0)], h)) rfl ?_
    obtain ⟨v5, hv5, hF⟩ := ob_some hF
    refine en_bald (by decide +kernel : u_at kl_178 13 = some (.baload, [])) hW ha0 rfl (by decide) hv5 ?_
    refine en_segs [(14, .bipush 48, [])] (by decide +kernel) (y := (16, [some (.ref a0), some (.int p1)], [.int 48, .int v5], h)) rfl ?_
    refine en_ic_lt (by decide +kernel : u_at kl_178 16 = some (.if_icmp .lt 18, [34])) (fun b6 => ?_) (fun b6 => ?_)
    · replace hF := i_pos b6 hF
      refine en_segs [(34, .iconst 0, [])] (by decide +kernel) (y := (35, [some (.ref a0), some (.int p1)], [.int 0], h)) rfl ?_
      obtain rfl := Option.some.inj hF
      exact j2
    · replace hF := i_neg b6 hF
      refine en_segs [(19, .aload_n 0, [])] (by decide +kernel) (y := (20, [some (.ref a0), some (.int p1)], [.ref a0], h)) rfl ?_
      refine en_get (by decide +kernel : u_at kl_178 20 = some (.getfield 7, [12, 0])) hW ha0 (by decide) rfl ?_
      refine en_segs [(23, .iload_n 1, [])] (by decide +kernel) (y := (24, [some (.ref a0), some (.int p1)], [.int p1, .ref (aP d 12 0 a0)], h)) rfl ?_
      obtain ⟨v7, hv7, hF⟩ := ob_some hF
      refine en_bald (by decide +kernel : u_at kl_178 24 = some (.baload, [])) hW ha0 rfl (by decide) hv7 ?_
      refine en_segs [(25, .bipush 57, [])] (by decide +kernel) (y := (27, [some (.ref a0), some (.int p1)], [.int 57, .int v7], h)) rfl ?_
      refine en_ic_gt (by decide +kernel : u_at kl_178 27 = some (.if_icmp .gt 7, [34])) (fun b8 => ?_) (fun b8 => ?_)
      · replace hF := i_pos b8 hF
        refine en_segs [(34, .iconst 0, [])] (by decide +kernel) (y := (35, [some (.ref a0), some (.int p1)], [.int 0], h)) rfl ?_
        obtain rfl := Option.some.inj hF
        exact j2
      · replace hF := i_neg b8 hF
        refine en_segs [(30, .iconst 1, []), (31, .goto 4, [35])] (by decide +kernel) (y := (35, [some (.ref a0), some (.int p1)], [.int 1], h)) rfl ?_
        obtain rfl := Option.some.inj hF
        exact j2
def F_179 (c12 : Cl) (a0 : Nat) (p1 : Int32) : Option Int32 :=
  ((if (cI c12 1 a0) ≤ p1 then
  some 0
  else
  ald (cA c12 0 a0) 400 p1 >>= fun v5 =>
  if v5 < 97 then
  some 0
  else
  ald (cA c12 0 a0) 400 p1 >>= fun v7 =>
  if 122 < v7 then
  some 0
  else
  some 1) : Option (Int32)) >>= fun (t1 : Int32) =>
  zb t1 >>= fun z3 => some z3
set_option maxRecDepth 100000 in
set_option maxHeartbeats 4000000 in
/-- HeadCountsModel.isLetter -/
theorem e_179 {D : Nat} {c0 c1 c2 c3 c4 c5 c6 c7 c8 c9 c10 c11 c12 c13 : Cl} {d : Ad} {h : UH} {a0 : Nat} {p1 : Int32} {r : Int32} (hD : 1 ≤ D) (hW : HW (mkw c0 c1 c2 c3 c4 c5 c6 c7 c8 c9 c10 c11 c12 c13) d h) (ha0 : aK d a0 = (0, 12, 0)) (hF : F_179 c12 a0 p1 = some r) : ∃ q, EX D 179 [.ref a0, .int p1] h q ∧ q.1 = some (.int r) ∧ h = q.2 := by
  obtain ⟨D, rfl⟩ : ∃ E, D = E + 1 := ⟨D - 1, by omega⟩
  unfold F_179 at hF
  refine ex_in (kl := kl_179) (nL := 2) rfl (by decide +kernel) (Nat.le_of_ble_eq_true rfl) ?_
  obtain ⟨QQ, hQQ⟩ : ∃ QQ : UR → Prop, QQ = (fun q : UR => q.1 = some (.int r) ∧ h = q.2) := ⟨_, rfl⟩
  rw [← hQQ]
  have hQ : QQ (some (.int r), h) := by rw [hQQ]; exact ⟨rfl, rfl⟩
  clear hQQ
  show Ends (EX D) (u_at kl_179) (0, [some (.ref a0), some (.int p1)], [], h) QQ
  refine en_segs [(0, .iload_n 1, []), (1, .aload_n 0, [])] (by decide +kernel) (y := (2, [some (.ref a0), some (.int p1)], [.ref a0, .int p1], h)) rfl ?_
  refine en_get (by decide +kernel : u_at kl_179 2 = some (.getfield 122, [12, 1])) hW ha0 (by decide) rfl ?_
  obtain ⟨t1, hX, hK⟩ := ob_some hF
  have j2 : Ends (EX D) (u_at kl_179) (35, [some (.ref a0), some (.int p1)], [.int t1], h) QQ := by
    have hF := hK
    obtain ⟨z3, hz3, hF⟩ := ob_some hF
    obtain rfl := Option.some.inj hF
    exact en_retZ (by decide +kernel : u_at kl_179 35 = some (.ireturn, [1])) hz3 (hQ)
  have hF := hX
  refine en_ic_ge (by decide +kernel : u_at kl_179 5 = some (.if_icmp .ge 29, [34])) (fun b4 => ?_) (fun b4 => ?_)
  · replace hF := i_pos b4 hF
    refine en_segs [(34, .iconst 0, [])] (by decide +kernel) (y := (35, [some (.ref a0), some (.int p1)], [.int 0], h)) rfl ?_
    obtain rfl := Option.some.inj hF
    exact j2
  · replace hF := i_neg b4 hF
    refine en_segs [(8, .aload_n 0, [])] (by decide +kernel) (y := (9, [some (.ref a0), some (.int p1)], [.ref a0], h)) rfl ?_
    refine en_get (by decide +kernel : u_at kl_179 9 = some (.getfield 7, [12, 0])) hW ha0 (by decide) rfl ?_
    refine en_segs [(12, .iload_n 1, [])] (by decide +kernel) (y := (13, [some (.ref a0), some (.int p1)], [.int p1, .ref (aP d 12 0 a0)], h)) rfl ?_
    obtain ⟨v5, hv5, hF⟩ := ob_some hF
    refine en_bald (by decide +kernel : u_at kl_179 13 = some (.baload, [])) hW ha0 rfl (by decide) hv5 ?_
    refine en_segs [(14, .bipush 97, [])] (by decide +kernel) (y := (16, [some (.ref a0), some (.int p1)], [.int 97, .int v5], h)) rfl ?_
    refine en_ic_lt (by decide +kernel : u_at kl_179 16 = some (.if_icmp .lt 18, [34])) (fun b6 => ?_) (fun b6 => ?_)
    · replace hF := i_pos b6 hF
      refine en_segs [(34, .iconst 0, [])] (by decide +kernel) (y := (35, [some (.ref a0), some (.int p1)], [.int 0], h)) rfl ?_
      obtain rfl := Option.some.inj hF
      exact j2
    · replace hF := i_neg b6 hF
      refine en_segs [(19, .aload_n 0, [])] (by decide +kernel) (y := (20, [some (.ref a0), some (.int p1)], [.ref a0], h)) rfl ?_
      refine en_get (by decide +kernel : u_at kl_179 20 = some (.getfield 7, [12, 0])) hW ha0 (by decide) rfl ?_
      refine en_segs [(23, .iload_n 1, [])] (by decide +kernel) (y := (24, [some (.ref a0), some (.int p1)], [.int p1, .ref (aP d 12 0 a0)], h)) rfl ?_
      obtain ⟨v7, hv7, hF⟩ := ob_some hF
      refine en_bald (by decide +kernel : u_at kl_179 24 = some (.baload, [])) hW ha0 rfl (by decide) hv7 ?_
      refine en_segs [(25, .bipush 122, [])] (by decide +kernel) (y := (27, [some (.ref a0), some (.int p1)], [.int 122, .int v7], h)) rfl ?_
      refine en_ic_gt (by decide +kernel : u_at kl_179 27 = some (.if_icmp .gt 7, [34])) (fun b8 => ?_) (fun b8 => ?_)
      · replace hF := i_pos b8 hF
        refine en_segs [(34, .iconst 0, [])] (by decide +kernel) (y := (35, [some (.ref a0), some (.int p1)], [.int 0], h)) rfl ?_
        obtain rfl := Option.some.inj hF
        exact j2
      · replace hF := i_neg b8 hF
        refine en_segs [(30, .iconst 1, []), (31, .goto 4, [35])] (by decide +kernel) (y := (35, [some (.ref a0), some (.int p1)], [.int 1], h)) rfl ?_
        obtain rfl := Option.some.inj hF
        exact j2
def G_180 (c12 : Cl) (a0 : Nat) (lab : Nat) (xs : List Int32) (ys : List Int64) (zs : List Nat) : Option (Int32 × Cl) := match lab, xs, ys, zs with
  | 0, [x5], [y1, y3], [] =>
    F_179 c12 a0 ((cI c12 8 a0) + x5) >>= fun r2 =>
    if r2 = 0 then
    ((if x5 ≤ 0 then
    some 0
    else
    if 9 ≤ x5 then
    some 0
    else
    if (lg_cmp y3 y1) = 0 then
    some 1
    else
    some 0) : Option (Int32)) >>= fun (t4 : Int32) =>
    zb t4 >>= fun z6 => some (z6, c12)
    else
    ((if 8 ≤ x5 then
    some y3
    else
    ald (cA c12 0 a0) 400 ((cI c12 8 a0) + x5) >>= fun v13 =>
    some ((y3 <<< ((8 : Int32).toInt64 &&& 63)) ||| ((v13 : Int32).toInt64))) : Option (Int64)) >>= fun (t10 : Int64) =>
    G_180 c12 a0 0 [x5 + 1] [y1, t10] []
  | _, _, _, _ => none
partial_fixpoint
set_option maxRecDepth 100000 in
set_option maxHeartbeats 4000000 in
theorem g_180 {D : Nat} (hD : 2 ≤ D + 1) {c0 c1 c2 c3 c4 c5 c6 c7 c8 c9 c10 c11 c12 c13 : Cl} {d : Ad} {a0 : Nat} (ha0 : aK d a0 = (0, 12, 0)) : ∀ (lab : Nat) (xs : List Int32) (ys : List Int64) (zs : List Nat) (r : (Int32 × Cl)), G_180 c12 a0 lab xs ys zs = some r →
    (∀ (x5 : Int32) (y1 : Int64) (y3 : Int64), lab = 0 → xs = [x5] → ys = [y1, y3] → zs = [] → ∀ h : UH, HW (mkw c0 c1 c2 c3 c4 c5 c6 c7 c8 c9 c10 c11 c12 c13) d h → ∀ QQ : UR → Prop, (∀ h' : UH, HW (mkw c0 c1 c2 c3 c4 c5 c6 c7 c8 c9 c10 c11 r.2 c13) d h' → QQ (some (.int r.1), h')) → Ends (EX D) (u_at kl_180) (10, [some (.ref a0), some (.long y1), none, some (.long y3), none, some (.int x5)], [], h) QQ) := by
  refine G_180.partial_correctness _ _ (motive := fun lab xs ys zs r =>
    (∀ (x5 : Int32) (y1 : Int64) (y3 : Int64), lab = 0 → xs = [x5] → ys = [y1, y3] → zs = [] → ∀ h : UH, HW (mkw c0 c1 c2 c3 c4 c5 c6 c7 c8 c9 c10 c11 c12 c13) d h → ∀ QQ : UR → Prop, (∀ h' : UH, HW (mkw c0 c1 c2 c3 c4 c5 c6 c7 c8 c9 c10 c11 r.2 c13) d h' → QQ (some (.int r.1), h')) → Ends (EX D) (u_at kl_180) (10, [some (.ref a0), some (.long y1), none, some (.long y3), none, some (.int x5)], [], h) QQ)) ?_
  intro G ih lab xs ys zs r hF
  · intro x5 y1 y3 e1 e2 e3 e4 h hW QQ hQ
    subst e1 e2 e3 e4
    refine en_segs [(10, .aload_n 0, []), (11, .aload_n 0, [])] (by decide +kernel) (y := (12, [some (.ref a0), some (.long y1), none, some (.long y3), none, some (.int x5)], [.ref a0, .ref a0], h)) rfl ?_
    refine en_get (by decide +kernel : u_at kl_180 12 = some (.getfield 133, [12, 8])) hW ha0 (by decide) rfl ?_
    refine en_segs [(15, .iload 5, []), (17, .iadd, [])] (by decide +kernel) (y := (18, [some (.ref a0), some (.long y1), none, some (.long y3), none, some (.int x5)], [.int ((cI c12 8 a0) + x5), .ref a0], h)) rfl ?_
    obtain ⟨r2, hr2, hF⟩ := ob_some hF
    refine en_vi (r := []) (by decide +kernel : u_at kl_180 18 = some (.invokevirtual 140, [179, 1, 12])) hW ha0 rfl rfl (Nat.le_of_ble_eq_true rfl) (e_179 (D := D) (by omega) hW ha0 hr2) (fun h' q => ?_)
    subst q
    refine en_if_eq (by decide +kernel : u_at kl_180 21 = some (.ifCond .eq 35, [56])) (fun b3 => ?_) (fun b3 => ?_)
    · replace hF := i_pos b3 hF
      refine en_segs [(56, .iload 5, [])] (by decide +kernel) (y := (58, [some (.ref a0), some (.long y1), none, some (.long y3), none, some (.int x5)], [.int x5], h)) rfl ?_
      obtain ⟨t4, hX, hK⟩ := ob_some hF
      have j5 : ∀ h : UH, HW (mkw c0 c1 c2 c3 c4 c5 c6 c7 c8 c9 c10 c11 c12 c13) d h → Ends (EX D) (u_at kl_180) (79, [some (.ref a0), some (.long y1), none, some (.long y3), none, some (.int x5)], [.int t4], h) QQ := by
        intro h hW
        have hF := hK
        obtain ⟨z6, hz6, hF⟩ := ob_some hF
        obtain rfl := Option.some.inj hF
        exact en_retZ (by decide +kernel : u_at kl_180 79 = some (.ireturn, [1])) hz6 (hQ _ hW)
      have hF := hX
      refine en_if_le (by decide +kernel : u_at kl_180 58 = some (.ifCond .le 20, [78])) (fun b7 => ?_) (fun b7 => ?_)
      · replace hF := i_pos b7 hF
        refine en_segs [(78, .iconst 0, [])] (by decide +kernel) (y := (79, [some (.ref a0), some (.long y1), none, some (.long y3), none, some (.int x5)], [.int 0], h)) rfl ?_
        obtain rfl := Option.some.inj hF
        exact j5 _ hW
      · replace hF := i_neg b7 hF
        refine en_segs [(61, .iload 5, []), (63, .bipush 9, [])] (by decide +kernel) (y := (65, [some (.ref a0), some (.long y1), none, some (.long y3), none, some (.int x5)], [.int 9, .int x5], h)) rfl ?_
        refine en_ic_ge (by decide +kernel : u_at kl_180 65 = some (.if_icmp .ge 13, [78])) (fun b8 => ?_) (fun b8 => ?_)
        · replace hF := i_pos b8 hF
          refine en_segs [(78, .iconst 0, [])] (by decide +kernel) (y := (79, [some (.ref a0), some (.long y1), none, some (.long y3), none, some (.int x5)], [.int 0], h)) rfl ?_
          obtain rfl := Option.some.inj hF
          exact j5 _ hW
        · replace hF := i_neg b8 hF
          refine en_segs [(68, .lload_n 3, []), (69, .lload_n 1, []), (70, .lcmp, [])] (by decide +kernel) (y := (71, [some (.ref a0), some (.long y1), none, some (.long y3), none, some (.int x5)], [.int (lg_cmp y3 y1)], h)) rfl ?_
          refine en_if_ne (by decide +kernel : u_at kl_180 71 = some (.ifCond .ne 7, [78])) (fun b9 => ?_) (fun b9 => ?_)
          · replace hF := i_pos b9 hF
            refine en_segs [(74, .iconst 1, []), (75, .goto 4, [79])] (by decide +kernel) (y := (79, [some (.ref a0), some (.long y1), none, some (.long y3), none, some (.int x5)], [.int 1], h)) rfl ?_
            obtain rfl := Option.some.inj hF
            exact j5 _ hW
          · replace hF := i_neg b9 hF
            refine en_segs [(78, .iconst 0, [])] (by decide +kernel) (y := (79, [some (.ref a0), some (.long y1), none, some (.long y3), none, some (.int x5)], [.int 0], h)) rfl ?_
            obtain rfl := Option.some.inj hF
            exact j5 _ hW
    · replace hF := i_neg b3 hF
      refine en_segs [(24, .iload 5, []), (26, .bipush 8, [])] (by decide +kernel) (y := (28, [some (.ref a0), some (.long y1), none, some (.long y3), none, some (.int x5)], [.int 8, .int x5], h)) rfl ?_
      obtain ⟨t10, hX, hK⟩ := ob_some hF
      have j11 : ∀ h : UH, HW (mkw c0 c1 c2 c3 c4 c5 c6 c7 c8 c9 c10 c11 c12 c13) d h → Ends (EX D) (u_at kl_180) (50, [some (.ref a0), some (.long y1), none, some (.long t10), none, some (.int x5)], [], h) QQ := by
        intro h hW
        have hF := hK
        refine en_segs [(50, .iinc 5 1, []), (53, .goto (-43), [10])] (by decide +kernel) (y := (10, [some (.ref a0), some (.long y1), none, some (.long t10), none, some (.int (x5 + 1))], [], h)) rfl ?_
        exact (ih _ _ _ _ _ hF) _ _ _ rfl rfl rfl rfl  _ hW _ hQ
      have hF := hX
      refine en_ic_ge (by decide +kernel : u_at kl_180 28 = some (.if_icmp .ge 22, [50])) (fun b12 => ?_) (fun b12 => ?_)
      · replace hF := i_pos b12 hF
        obtain rfl := Option.some.inj hF
        exact j11 _ hW
      · replace hF := i_neg b12 hF
        refine en_segs [(31, .lload_n 3, []), (32, .bipush 8, []), (34, .lshl, []), (35, .aload_n 0, [])] (by decide +kernel) (y := (36, [some (.ref a0), some (.long y1), none, some (.long y3), none, some (.int x5)], [.ref a0, .long (y3 <<< ((8 : Int32).toInt64 &&& 63))], h)) rfl ?_
        refine en_get (by decide +kernel : u_at kl_180 36 = some (.getfield 7, [12, 0])) hW ha0 (by decide) rfl ?_
        refine en_segs [(39, .aload_n 0, [])] (by decide +kernel) (y := (40, [some (.ref a0), some (.long y1), none, some (.long y3), none, some (.int x5)], [.ref a0, .ref (aP d 12 0 a0), .long (y3 <<< ((8 : Int32).toInt64 &&& 63))], h)) rfl ?_
        refine en_get (by decide +kernel : u_at kl_180 40 = some (.getfield 133, [12, 8])) hW ha0 (by decide) rfl ?_
        refine en_segs [(43, .iload 5, []), (45, .iadd, [])] (by decide +kernel) (y := (46, [some (.ref a0), some (.long y1), none, some (.long y3), none, some (.int x5)], [.int ((cI c12 8 a0) + x5), .ref (aP d 12 0 a0), .long (y3 <<< ((8 : Int32).toInt64 &&& 63))], h)) rfl ?_
        obtain ⟨v13, hv13, hF⟩ := ob_some hF
        refine en_bald (by decide +kernel : u_at kl_180 46 = some (.baload, [])) hW ha0 rfl (by decide) hv13 ?_
        refine en_segs [(47, .i2l, []), (48, .lor, []), (49, .lstore_n 3, [])] (by decide +kernel) (y := (50, [some (.ref a0), some (.long y1), none, some (.long ((y3 <<< ((8 : Int32).toInt64 &&& 63)) ||| ((v13 : Int32).toInt64))), none, some (.int x5)], [], h)) rfl ?_
        obtain rfl := Option.some.inj hF
        exact j11 _ hW
def F_180 (c12 : Cl) (a0 : Nat) (p1 : Int64) : Option (Int32 × Cl) :=
  F_177 c12 a0 >>= fun r1 =>
  G_180 r1.2 a0 0 [0] [p1, 0] []
set_option maxRecDepth 100000 in
set_option maxHeartbeats 4000000 in
/-- HeadCountsModel.isWord -/
theorem e_180 {D : Nat} {c0 c1 c2 c3 c4 c5 c6 c7 c8 c9 c10 c11 c12 c13 : Cl} {d : Ad} {h : UH} {a0 : Nat} {p1 : Int64} {r : (Int32 × Cl)} (hD : 2 ≤ D) (hW : HW (mkw c0 c1 c2 c3 c4 c5 c6 c7 c8 c9 c10 c11 c12 c13) d h) (ha0 : aK d a0 = (0, 12, 0)) (hF : F_180 c12 a0 p1 = some r) : ∃ q, EX D 180 [.ref a0, .long p1] h q ∧ q.1 = some (.int r.1) ∧ HW (mkw c0 c1 c2 c3 c4 c5 c6 c7 c8 c9 c10 c11 r.2 c13) d q.2 := by
  obtain ⟨D, rfl⟩ : ∃ E, D = E + 1 := ⟨D - 1, by omega⟩
  unfold F_180 at hF
  refine ex_in (kl := kl_180) (nL := 6) rfl (by decide +kernel) (Nat.le_of_ble_eq_true rfl) ?_
  obtain ⟨QQ, hQQ⟩ : ∃ QQ : UR → Prop, QQ = (fun q : UR => q.1 = some (.int r.1) ∧ HW (mkw c0 c1 c2 c3 c4 c5 c6 c7 c8 c9 c10 c11 r.2 c13) d q.2) := ⟨_, rfl⟩
  rw [← hQQ]
  have hQ : ∀ h' : UH, HW (mkw c0 c1 c2 c3 c4 c5 c6 c7 c8 c9 c10 c11 r.2 c13) d h' → QQ (some (.int r.1), h') := fun h' p => by rw [hQQ]; exact ⟨rfl, p⟩
  clear hQQ
  show Ends (EX D) (u_at kl_180) (0, [some (.ref a0), some (.long p1), none, none, none, none], [], h) QQ
  refine en_segs [(0, .aload_n 0, [])] (by decide +kernel) (y := (1, [some (.ref a0), some (.long p1), none, none, none, none], [.ref a0], h)) rfl ?_
  obtain ⟨r1, hr1, hF⟩ := ob_some hF
  refine en_vi (r := []) (by decide +kernel : u_at kl_180 1 = some (.invokevirtual 136, [177, 0, 12])) hW ha0 rfl rfl (Nat.le_of_ble_eq_true rfl) (e_177 (D := D) (by omega) hW ha0 hr1) (fun h hW => ?_)
  have hW : HW (mkw c0 c1 c2 c3 c4 c5 c6 c7 c8 c9 c10 c11 r1.2 c13) d h := hW
  refine en_segs [(4, .pop, []), (5, .lconst 0, []), (6, .lstore_n 3, []), (7, .iconst 0, []), (8, .istore 5, [])] (by decide +kernel) (y := (10, [some (.ref a0), some (.long p1), none, some (.long 0), none, some (.int 0)], [], h)) rfl ?_
  exact (g_180 (D := D) hD ha0 _ _ _ _ _ hF) _ _ _ rfl rfl rfl rfl  _ hW _ hQ
def G_181 (a0 : Nat) (lab : Nat) (xs : List Int32) (ys : List Int64) (zs : List Nat) (c12 : Cl) : Option Cl := match lab, xs, ys, zs with
  | 0, [], [], [] =>
    F_179 c12 a0 (cI c12 8 a0) >>= fun r1 =>
    if r1 = 0 then
    some c12
    else
    some (sI c12 8 a0 ((cI c12 8 a0) + 1)) >>= fun c12_3 =>
    G_181 a0 0 [] [] [] c12_3
  | _, _, _, _ => none
partial_fixpoint
set_option maxRecDepth 100000 in
set_option maxHeartbeats 4000000 in
theorem g_181 {D : Nat} (hD : 2 ≤ D + 1) {c0 c1 c2 c3 c4 c5 c6 c7 c8 c9 c10 c11 c13 : Cl} {d : Ad} {a0 : Nat} (ha0 : aK d a0 = (0, 12, 0)) : ∀ (lab : Nat) (xs : List Int32) (ys : List Int64) (zs : List Nat) (c12 : Cl) (r : Cl), G_181 a0 lab xs ys zs c12 = some r →
    (∀ (_ : Unit), lab = 0 → xs = [] → ys = [] → zs = [] → ∀ h : UH, HW (mkw c0 c1 c2 c3 c4 c5 c6 c7 c8 c9 c10 c11 c12 c13) d h → ∀ QQ : UR → Prop, (∀ h' : UH, HW (mkw c0 c1 c2 c3 c4 c5 c6 c7 c8 c9 c10 c11 r c13) d h' → QQ (none, h')) → Ends (EX D) (u_at kl_181) (0, [some (.ref a0)], [], h) QQ) := by
  refine G_181.partial_correctness _ (motive := fun lab xs ys zs c12 r =>
    (∀ (_ : Unit), lab = 0 → xs = [] → ys = [] → zs = [] → ∀ h : UH, HW (mkw c0 c1 c2 c3 c4 c5 c6 c7 c8 c9 c10 c11 c12 c13) d h → ∀ QQ : UR → Prop, (∀ h' : UH, HW (mkw c0 c1 c2 c3 c4 c5 c6 c7 c8 c9 c10 c11 r c13) d h' → QQ (none, h')) → Ends (EX D) (u_at kl_181) (0, [some (.ref a0)], [], h) QQ)) ?_
  intro G ih lab xs ys zs c12 r hF
  · intro _ e1 e2 e3 e4 h hW QQ hQ
    subst e1 e2 e3 e4
    refine en_segs [(0, .aload_n 0, []), (1, .aload_n 0, [])] (by decide +kernel) (y := (2, [some (.ref a0)], [.ref a0, .ref a0], h)) rfl ?_
    refine en_get (by decide +kernel : u_at kl_181 2 = some (.getfield 133, [12, 8])) hW ha0 (by decide) rfl ?_
    obtain ⟨r1, hr1, hF⟩ := ob_some hF
    refine en_vi (r := []) (by decide +kernel : u_at kl_181 5 = some (.invokevirtual 140, [179, 1, 12])) hW ha0 rfl rfl (Nat.le_of_ble_eq_true rfl) (e_179 (D := D) (by omega) hW ha0 hr1) (fun h' q => ?_)
    subst q
    refine en_if_eq (by decide +kernel : u_at kl_181 8 = some (.ifCond .eq 16, [24])) (fun b2 => ?_) (fun b2 => ?_)
    · replace hF := i_pos b2 hF
      obtain rfl := Option.some.inj hF
      exact en_ret (by decide +kernel : u_at kl_181 24 = some (.return_, [])) rfl (hQ _ hW)
    · replace hF := i_neg b2 hF
      refine en_segs [(11, .aload_n 0, []), (12, .dup, [])] (by decide +kernel) (y := (13, [some (.ref a0)], [.ref a0, .ref a0], h)) rfl ?_
      refine en_get (by decide +kernel : u_at kl_181 13 = some (.getfield 133, [12, 8])) hW ha0 (by decide) rfl ?_
      refine en_segs [(16, .iconst 1, []), (17, .iadd, [])] (by decide +kernel) (y := (18, [some (.ref a0)], [.int ((cI c12 8 a0) + 1), .ref a0], h)) rfl ?_
      obtain ⟨c12_3, hc12_3, hF⟩ := ob_some hF
      refine en_putI (by decide +kernel : u_at kl_181 18 = some (.putfield 133, [12, 8, 0])) hW ha0 rfl (by decide) rfl (fun h hW => ?_)
      have hW : HW (mkw c0 c1 c2 c3 c4 c5 c6 c7 c8 c9 c10 c11 c12_3 c13) d h := by rw [← Option.some.inj hc12_3]; exact hW
      refine en_segs [(21, .goto (-21), [0])] (by decide +kernel) (y := (0, [some (.ref a0)], [], h)) rfl ?_
      exact (ih _ _ _ _ _ _ hF) () rfl rfl rfl rfl  _ hW _ hQ
def F_181 (c12 : Cl) (a0 : Nat) : Option Cl :=
  G_181 a0 0 [] [] [] c12
set_option maxRecDepth 100000 in
set_option maxHeartbeats 4000000 in
/-- HeadCountsModel.passWord -/
theorem e_181 {D : Nat} {c0 c1 c2 c3 c4 c5 c6 c7 c8 c9 c10 c11 c12 c13 : Cl} {d : Ad} {h : UH} {a0 : Nat} {r : Cl} (hD : 2 ≤ D) (hW : HW (mkw c0 c1 c2 c3 c4 c5 c6 c7 c8 c9 c10 c11 c12 c13) d h) (ha0 : aK d a0 = (0, 12, 0)) (hF : F_181 c12 a0 = some r) : ∃ q, EX D 181 [.ref a0] h q ∧ q.1 = none ∧ HW (mkw c0 c1 c2 c3 c4 c5 c6 c7 c8 c9 c10 c11 r c13) d q.2 := by
  obtain ⟨D, rfl⟩ : ∃ E, D = E + 1 := ⟨D - 1, by omega⟩
  unfold F_181 at hF
  refine ex_in (kl := kl_181) (nL := 1) rfl (by decide +kernel) (Nat.le_of_ble_eq_true rfl) ?_
  obtain ⟨QQ, hQQ⟩ : ∃ QQ : UR → Prop, QQ = (fun q : UR => q.1 = none ∧ HW (mkw c0 c1 c2 c3 c4 c5 c6 c7 c8 c9 c10 c11 r c13) d q.2) := ⟨_, rfl⟩
  rw [← hQQ]
  have hQ : ∀ h' : UH, HW (mkw c0 c1 c2 c3 c4 c5 c6 c7 c8 c9 c10 c11 r c13) d h' → QQ (none, h') := fun h' p => by rw [hQQ]; exact ⟨rfl, p⟩
  clear hQQ
  show Ends (EX D) (u_at kl_181) (0, [some (.ref a0)], [], h) QQ
  exact (g_181 (D := D) hD ha0 _ _ _ _ _ _ hF) () rfl rfl rfl rfl  _ hW _ hQ
def F_182 (c12 : Cl) (a0 : Nat) (p1 : Int64) : Option (Int32 × Cl) :=
  F_180 c12 a0 p1 >>= fun r1 =>
  if r1.1 = 0 then
  some (0, r1.2)
  else
  F_181 r1.2 a0 >>= fun r3 =>
  some (1, r3)
set_option maxRecDepth 100000 in
set_option maxHeartbeats 4000000 in
/-- HeadCountsModel.takesWord -/
theorem e_182 {D : Nat} {c0 c1 c2 c3 c4 c5 c6 c7 c8 c9 c10 c11 c12 c13 : Cl} {d : Ad} {h : UH} {a0 : Nat} {p1 : Int64} {r : (Int32 × Cl)} (hD : 3 ≤ D) (hW : HW (mkw c0 c1 c2 c3 c4 c5 c6 c7 c8 c9 c10 c11 c12 c13) d h) (ha0 : aK d a0 = (0, 12, 0)) (hF : F_182 c12 a0 p1 = some r) : ∃ q, EX D 182 [.ref a0, .long p1] h q ∧ q.1 = some (.int r.1) ∧ HW (mkw c0 c1 c2 c3 c4 c5 c6 c7 c8 c9 c10 c11 r.2 c13) d q.2 := by
  obtain ⟨D, rfl⟩ : ∃ E, D = E + 1 := ⟨D - 1, by omega⟩
  unfold F_182 at hF
  refine ex_in (kl := kl_182) (nL := 3) rfl (by decide +kernel) (Nat.le_of_ble_eq_true rfl) ?_
  obtain ⟨QQ, hQQ⟩ : ∃ QQ : UR → Prop, QQ = (fun q : UR => q.1 = some (.int r.1) ∧ HW (mkw c0 c1 c2 c3 c4 c5 c6 c7 c8 c9 c10 c11 r.2 c13) d q.2) := ⟨_, rfl⟩
  rw [← hQQ]
  have hQ : ∀ h' : UH, HW (mkw c0 c1 c2 c3 c4 c5 c6 c7 c8 c9 c10 c11 r.2 c13) d h' → QQ (some (.int r.1), h') := fun h' p => by rw [hQQ]; exact ⟨rfl, p⟩
  clear hQQ
  show Ends (EX D) (u_at kl_182) (0, [some (.ref a0), some (.long p1), none], [], h) QQ
  refine en_segs [(0, .aload_n 0, []), (1, .lload_n 1, [])] (by decide +kernel) (y := (2, [some (.ref a0), some (.long p1), none], [.long p1, .ref a0], h)) rfl ?_
  obtain ⟨r1, hr1, hF⟩ := ob_some hF
  refine en_vi (r := []) (by decide +kernel : u_at kl_182 2 = some (.invokevirtual 144, [180, 1, 12])) hW ha0 rfl rfl (Nat.le_of_ble_eq_true rfl) (e_180 (D := D) (by omega) hW ha0 hr1) (fun h hW => ?_)
  have hW : HW (mkw c0 c1 c2 c3 c4 c5 c6 c7 c8 c9 c10 c11 r1.2 c13) d h := hW
  refine en_if_ne (by decide +kernel : u_at kl_182 5 = some (.ifCond .ne 5, [10])) (fun b2 => ?_) (fun b2 => ?_)
  · replace hF := i_pos b2 hF
    refine en_segs [(8, .iconst 0, [])] (by decide +kernel) (y := (9, [some (.ref a0), some (.long p1), none], [.int 0], h)) rfl ?_
    obtain rfl := Option.some.inj hF
    exact en_ret (by decide +kernel : u_at kl_182 9 = some (.ireturn, [1])) rfl (hQ _ hW)
  · replace hF := i_neg b2 hF
    refine en_segs [(10, .aload_n 0, [])] (by decide +kernel) (y := (11, [some (.ref a0), some (.long p1), none], [.ref a0], h)) rfl ?_
    obtain ⟨r3, hr3, hF⟩ := ob_some hF
    refine en_vv (r := []) (by decide +kernel : u_at kl_182 11 = some (.invokevirtual 148, [181, 0, 12])) hW ha0 rfl rfl (Nat.le_of_ble_eq_true rfl) (e_181 (D := D) (by omega) hW ha0 hr3) (fun h hW => ?_)
    have hW : HW (mkw c0 c1 c2 c3 c4 c5 c6 c7 c8 c9 c10 c11 r3 c13) d h := hW
    refine en_segs [(14, .iconst 1, [])] (by decide +kernel) (y := (15, [some (.ref a0), some (.long p1), none], [.int 1], h)) rfl ?_
    obtain rfl := Option.some.inj hF
    exact en_ret (by decide +kernel : u_at kl_182 15 = some (.ireturn, [1])) rfl (hQ _ hW)
def G_183 (a0 : Nat) (lab : Nat) (xs : List Int32) (ys : List Int64) (zs : List Nat) (c12 : Cl) : Option (Int32 × Cl) := match lab, xs, ys, zs with
  | 0, [x1, x2, x3, x4], [], [] =>
    F_178 c12 a0 (cI c12 8 a0) >>= fun r6 =>
    if r6 = 0 then
    some (sI c12 10 a0 x4) >>= fun c12_8 =>
    if 5 < ((cI c12_8 8 a0) - x3) then
    G_183 a0 1 [x3] [] [] c12_8
    else
    F_170 ((x4 : Int32).toInt64) ((x1 : Int32).toInt64) ((x2 : Int32).toInt64) >>= fun r10 =>
    if r10 = 0 then
    G_183 a0 1 [x3] [] [] c12_8
    else
    G_183 a0 2 [] [] [] c12_8
    else
    ((if 5 ≤ ((cI c12 8 a0) - x3) then
    some x4
    else
    ald (cA c12 0 a0) 400 (cI c12 8 a0) >>= fun v16 =>
    some (((10 * x4) + v16) - 48)) : Option (Int32)) >>= fun (t12 : Int32) =>
    some (sI c12 8 a0 ((cI c12 8 a0) + 1)) >>= fun c12_14 =>
    G_183 a0 0 [x1, x2, x3, t12] [] [] c12_14
  | 1, [x3], [], [] =>
    F_176 c12 a0 1 x3 >>= fun r17 =>
    if r17.1 = 0 then
    some (0, r17.2)
    else
    G_183 a0 2 [] [] [] r17.2
  | 2, [], [], [] =>
    some (1, c12)
  | _, _, _, _ => none
partial_fixpoint
set_option maxRecDepth 100000 in
set_option maxHeartbeats 4000000 in
theorem g_183 {D : Nat} (hD : 2 ≤ D + 1) {c0 c1 c2 c3 c4 c5 c6 c7 c8 c9 c10 c11 c13 : Cl} {d : Ad} {a0 : Nat} (ha0 : aK d a0 = (0, 12, 0)) : ∀ (lab : Nat) (xs : List Int32) (ys : List Int64) (zs : List Nat) (c12 : Cl) (r : (Int32 × Cl)), G_183 a0 lab xs ys zs c12 = some r →
    (∀ (x1 : Int32) (x2 : Int32) (x3 : Int32) (x4 : Int32), lab = 0 → xs = [x1, x2, x3, x4] → ys = [] → zs = [] → ∀ h : UH, HW (mkw c0 c1 c2 c3 c4 c5 c6 c7 c8 c9 c10 c11 c12 c13) d h → ∀ QQ : UR → Prop, (∀ h' : UH, HW (mkw c0 c1 c2 c3 c4 c5 c6 c7 c8 c9 c10 c11 r.2 c13) d h' → QQ (some (.int r.1), h')) → Ends (EX D) (u_at kl_183) (34, [some (.ref a0), some (.int x1), some (.int x2), some (.int x3), some (.int x4)], [], h) QQ) ∧
    (∀ (x3 : Int32), lab = 1 → xs = [x3] → ys = [] → zs = [] → ∀ h : UH, HW (mkw c0 c1 c2 c3 c4 c5 c6 c7 c8 c9 c10 c11 c12 c13) d h → ∀ QQ : UR → Prop, (∀ h' : UH, HW (mkw c0 c1 c2 c3 c4 c5 c6 c7 c8 c9 c10 c11 r.2 c13) d h' → QQ (some (.int r.1), h')) → Ends (EX D) (u_at kl_183) (117, [some (.ref a0), none, none, some (.int x3), none], [], h) QQ) ∧
    (∀ (_ : Unit), lab = 2 → xs = [] → ys = [] → zs = [] → ∀ h : UH, HW (mkw c0 c1 c2 c3 c4 c5 c6 c7 c8 c9 c10 c11 c12 c13) d h → ∀ QQ : UR → Prop, (∀ h' : UH, HW (mkw c0 c1 c2 c3 c4 c5 c6 c7 c8 c9 c10 c11 r.2 c13) d h' → QQ (some (.int r.1), h')) → Ends (EX D) (u_at kl_183) (126, [none, none, none, none, none], [], h) QQ) := by
  refine G_183.partial_correctness _ (motive := fun lab xs ys zs c12 r =>
    (∀ (x1 : Int32) (x2 : Int32) (x3 : Int32) (x4 : Int32), lab = 0 → xs = [x1, x2, x3, x4] → ys = [] → zs = [] → ∀ h : UH, HW (mkw c0 c1 c2 c3 c4 c5 c6 c7 c8 c9 c10 c11 c12 c13) d h → ∀ QQ : UR → Prop, (∀ h' : UH, HW (mkw c0 c1 c2 c3 c4 c5 c6 c7 c8 c9 c10 c11 r.2 c13) d h' → QQ (some (.int r.1), h')) → Ends (EX D) (u_at kl_183) (34, [some (.ref a0), some (.int x1), some (.int x2), some (.int x3), some (.int x4)], [], h) QQ) ∧
    (∀ (x3 : Int32), lab = 1 → xs = [x3] → ys = [] → zs = [] → ∀ h : UH, HW (mkw c0 c1 c2 c3 c4 c5 c6 c7 c8 c9 c10 c11 c12 c13) d h → ∀ QQ : UR → Prop, (∀ h' : UH, HW (mkw c0 c1 c2 c3 c4 c5 c6 c7 c8 c9 c10 c11 r.2 c13) d h' → QQ (some (.int r.1), h')) → Ends (EX D) (u_at kl_183) (117, [some (.ref a0), none, none, some (.int x3), none], [], h) QQ) ∧
    (∀ (_ : Unit), lab = 2 → xs = [] → ys = [] → zs = [] → ∀ h : UH, HW (mkw c0 c1 c2 c3 c4 c5 c6 c7 c8 c9 c10 c11 c12 c13) d h → ∀ QQ : UR → Prop, (∀ h' : UH, HW (mkw c0 c1 c2 c3 c4 c5 c6 c7 c8 c9 c10 c11 r.2 c13) d h' → QQ (some (.int r.1), h')) → Ends (EX D) (u_at kl_183) (126, [none, none, none, none, none], [], h) QQ)) ?_
  intro G ih lab xs ys zs c12 r hF
  refine ⟨?_, ?_, ?_⟩
  · intro x1 x2 x3 x4 e1 e2 e3 e4 h hW QQ hQ
    subst e1 e2 e3 e4
    refine en_segs [(34, .aload_n 0, []), (35, .aload_n 0, [])] (by decide +kernel) (y := (36, [some (.ref a0), some (.int x1), some (.int x2), some (.int x3), some (.int x4)], [.ref a0, .ref a0], h)) rfl ?_
    refine en_get (by decide +kernel : u_at kl_183 36 = some (.getfield 133, [12, 8])) hW ha0 (by decide) rfl ?_
    obtain ⟨r6, hr6, hF⟩ := ob_some hF
    refine en_vi (r := []) (by decide +kernel : u_at kl_183 39 = some (.invokevirtual 151, [178, 1, 12])) hW ha0 rfl rfl (Nat.le_of_ble_eq_true rfl) (e_178 (D := D) (by omega) hW ha0 hr6) (fun h' q => ?_)
    subst q
    refine en_if_eq (by decide +kernel : u_at kl_183 42 = some (.ifCond .eq 46, [88])) (fun b7 => ?_) (fun b7 => ?_)
    · replace hF := i_pos b7 hF
      refine en_segs [(88, .aload_n 0, []), (89, .iload 4, [])] (by decide +kernel) (y := (91, [some (.ref a0), some (.int x1), some (.int x2), some (.int x3), some (.int x4)], [.int x4, .ref a0], h)) rfl ?_
      obtain ⟨c12_8, hc12_8, hF⟩ := ob_some hF
      refine en_putI (by decide +kernel : u_at kl_183 91 = some (.putfield 158, [12, 10, 0])) hW ha0 rfl (by decide) rfl (fun h hW => ?_)
      have hW : HW (mkw c0 c1 c2 c3 c4 c5 c6 c7 c8 c9 c10 c11 c12_8 c13) d h := by rw [← Option.some.inj hc12_8]; exact hW
      refine en_segs [(94, .aload_n 0, [])] (by decide +kernel) (y := (95, [some (.ref a0), some (.int x1), some (.int x2), some (.int x3), some (.int x4)], [.ref a0], h)) rfl ?_
      refine en_get (by decide +kernel : u_at kl_183 95 = some (.getfield 133, [12, 8])) hW ha0 (by decide) rfl ?_
      refine en_segs [(98, .iload_n 3, []), (99, .isub, []), (100, .iconst 5, [])] (by decide +kernel) (y := (101, [some (.ref a0), some (.int x1), some (.int x2), some (.int x3), some (.int x4)], [.int 5, .int ((cI c12_8 8 a0) - x3)], h)) rfl ?_
      refine en_ic_gt (by decide +kernel : u_at kl_183 101 = some (.if_icmp .gt 16, [117])) (fun b9 => ?_) (fun b9 => ?_)
      · replace hF := i_pos b9 hF
        refine en_fg (fg_k (fg_d (fg_d (fg_k (fg_d fg_0))))) ?_
        exact (ih _ _ _ _ _ _ hF).2.1 _ rfl rfl rfl rfl  _ hW _ hQ
      · replace hF := i_neg b9 hF
        refine en_segs [(104, .iload 4, []), (106, .i2l, []), (107, .iload_n 1, []), (108, .i2l, []), (109, .iload_n 2, []), (110, .i2l, [])] (by decide +kernel) (y := (111, [some (.ref a0), some (.int x1), some (.int x2), some (.int x3), some (.int x4)], [.long ((x2 : Int32).toInt64), .long ((x1 : Int32).toInt64), .long ((x4 : Int32).toInt64)], h)) rfl ?_
        obtain ⟨r10, hr10, hF⟩ := ob_some hF
        refine en_si (r := []) (by decide +kernel : u_at kl_183 111 = some (.invokestatic 161, [170, 3])) rfl rfl (Nat.le_of_ble_eq_true rfl) (e_170 (D := D) (by omega) hW hr10) (fun h' q => ?_)
        subst q
        refine en_if_ne (by decide +kernel : u_at kl_183 114 = some (.ifCond .ne 12, [126])) (fun b11 => ?_) (fun b11 => ?_)
        · replace hF := i_pos b11 hF
          refine en_fg (fg_k (fg_d (fg_d (fg_k (fg_d fg_0))))) ?_
          exact (ih _ _ _ _ _ _ hF).2.1 _ rfl rfl rfl rfl  _ hW _ hQ
        · replace hF := i_neg b11 hF
          refine en_fg (fg_d (fg_d (fg_d (fg_d (fg_d fg_0))))) ?_
          exact (ih _ _ _ _ _ _ hF).2.2 () rfl rfl rfl rfl  _ hW _ hQ
    · replace hF := i_neg b7 hF
      refine en_segs [(45, .aload_n 0, [])] (by decide +kernel) (y := (46, [some (.ref a0), some (.int x1), some (.int x2), some (.int x3), some (.int x4)], [.ref a0], h)) rfl ?_
      refine en_get (by decide +kernel : u_at kl_183 46 = some (.getfield 133, [12, 8])) hW ha0 (by decide) rfl ?_
      refine en_segs [(49, .iload_n 3, []), (50, .isub, []), (51, .iconst 5, [])] (by decide +kernel) (y := (52, [some (.ref a0), some (.int x1), some (.int x2), some (.int x3), some (.int x4)], [.int 5, .int ((cI c12 8 a0) - x3)], h)) rfl ?_
      obtain ⟨t12, hX, hK⟩ := ob_some hF
      have j13 : ∀ h : UH, HW (mkw c0 c1 c2 c3 c4 c5 c6 c7 c8 c9 c10 c11 c12 c13) d h → Ends (EX D) (u_at kl_183) (75, [some (.ref a0), some (.int x1), some (.int x2), some (.int x3), some (.int t12)], [], h) QQ := by
        intro h hW
        have hF := hK
        refine en_segs [(75, .aload_n 0, []), (76, .dup, [])] (by decide +kernel) (y := (77, [some (.ref a0), some (.int x1), some (.int x2), some (.int x3), some (.int t12)], [.ref a0, .ref a0], h)) rfl ?_
        refine en_get (by decide +kernel : u_at kl_183 77 = some (.getfield 133, [12, 8])) hW ha0 (by decide) rfl ?_
        refine en_segs [(80, .iconst 1, []), (81, .iadd, [])] (by decide +kernel) (y := (82, [some (.ref a0), some (.int x1), some (.int x2), some (.int x3), some (.int t12)], [.int ((cI c12 8 a0) + 1), .ref a0], h)) rfl ?_
        obtain ⟨c12_14, hc12_14, hF⟩ := ob_some hF
        refine en_putI (by decide +kernel : u_at kl_183 82 = some (.putfield 133, [12, 8, 0])) hW ha0 rfl (by decide) rfl (fun h hW => ?_)
        have hW : HW (mkw c0 c1 c2 c3 c4 c5 c6 c7 c8 c9 c10 c11 c12_14 c13) d h := by rw [← Option.some.inj hc12_14]; exact hW
        refine en_segs [(85, .goto (-51), [34])] (by decide +kernel) (y := (34, [some (.ref a0), some (.int x1), some (.int x2), some (.int x3), some (.int t12)], [], h)) rfl ?_
        exact (ih _ _ _ _ _ _ hF).1 _ _ _ _ rfl rfl rfl rfl  _ hW _ hQ
      have hF := hX
      refine en_ic_ge (by decide +kernel : u_at kl_183 52 = some (.if_icmp .ge 23, [75])) (fun b15 => ?_) (fun b15 => ?_)
      · replace hF := i_pos b15 hF
        obtain rfl := Option.some.inj hF
        exact j13 _ hW
      · replace hF := i_neg b15 hF
        refine en_segs [(55, .bipush 10, []), (57, .iload 4, []), (59, .imul, []), (60, .aload_n 0, [])] (by decide +kernel) (y := (61, [some (.ref a0), some (.int x1), some (.int x2), some (.int x3), some (.int x4)], [.ref a0, .int (10 * x4)], h)) rfl ?_
        refine en_get (by decide +kernel : u_at kl_183 61 = some (.getfield 7, [12, 0])) hW ha0 (by decide) rfl ?_
        refine en_segs [(64, .aload_n 0, [])] (by decide +kernel) (y := (65, [some (.ref a0), some (.int x1), some (.int x2), some (.int x3), some (.int x4)], [.ref a0, .ref (aP d 12 0 a0), .int (10 * x4)], h)) rfl ?_
        refine en_get (by decide +kernel : u_at kl_183 65 = some (.getfield 133, [12, 8])) hW ha0 (by decide) rfl ?_
        obtain ⟨v16, hv16, hF⟩ := ob_some hF
        refine en_bald (by decide +kernel : u_at kl_183 68 = some (.baload, [])) hW ha0 rfl (by decide) hv16 ?_
        refine en_segs [(69, .iadd, []), (70, .bipush 48, []), (72, .isub, []), (73, .istore 4, [])] (by decide +kernel) (y := (75, [some (.ref a0), some (.int x1), some (.int x2), some (.int x3), some (.int (((10 * x4) + v16) - 48))], [], h)) rfl ?_
        obtain rfl := Option.some.inj hF
        exact j13 _ hW
  · intro x3 e1 e2 e3 e4 h hW QQ hQ
    subst e1 e2 e3 e4
    refine en_segs [(117, .aload_n 0, []), (118, .iconst 1, []), (119, .iload_n 3, [])] (by decide +kernel) (y := (120, [some (.ref a0), none, none, some (.int x3), none], [.int x3, .int 1, .ref a0], h)) rfl ?_
    obtain ⟨r17, hr17, hF⟩ := ob_some hF
    refine en_vi (r := []) (by decide +kernel : u_at kl_183 120 = some (.invokevirtual 154, [176, 2, 12])) hW ha0 rfl rfl (Nat.le_of_ble_eq_true rfl) (e_176 (D := D) (by omega) hW ha0 hr17) (fun h hW => ?_)
    have hW : HW (mkw c0 c1 c2 c3 c4 c5 c6 c7 c8 c9 c10 c11 r17.2 c13) d h := hW
    refine en_if_eq (by decide +kernel : u_at kl_183 123 = some (.ifCond .eq 7, [130])) (fun b18 => ?_) (fun b18 => ?_)
    · replace hF := i_pos b18 hF
      refine en_segs [(130, .iconst 0, [])] (by decide +kernel) (y := (131, [some (.ref a0), none, none, some (.int x3), none], [.int 0], h)) rfl ?_
      obtain rfl := Option.some.inj hF
      exact en_ret (by decide +kernel : u_at kl_183 131 = some (.ireturn, [1])) rfl (hQ _ hW)
    · replace hF := i_neg b18 hF
      refine en_fg (fg_d (fg_k (fg_k (fg_d (fg_k fg_0))))) ?_
      exact (ih _ _ _ _ _ _ hF).2.2 () rfl rfl rfl rfl  _ hW _ hQ
  · intro _ e1 e2 e3 e4 h hW QQ hQ
    subst e1 e2 e3 e4
    refine en_segs [(126, .iconst 1, []), (127, .goto 4, [131])] (by decide +kernel) (y := (131, [none, none, none, none, none], [.int 1], h)) rfl ?_
    obtain rfl := Option.some.inj hF
    exact en_ret (by decide +kernel : u_at kl_183 131 = some (.ireturn, [1])) rfl (hQ _ hW)
def F_183 (c12 : Cl) (a0 : Nat) (p1 : Int32) (p2 : Int32) : Option (Int32 × Cl) :=
  F_177 c12 a0 >>= fun r1 =>
  F_178 r1.2 a0 (cI r1.2 8 a0) >>= fun r2 =>
  if r2 = 0 then
  F_176 r1.2 a0 0 (cI r1.2 8 a0) >>= fun r4 =>
  zb r4.1 >>= fun z5 => some (z5, r4.2)
  else
  G_183 a0 0 [p1, p2, cI r1.2 8 a0, 0] [] [] r1.2
set_option maxRecDepth 100000 in
set_option maxHeartbeats 4000000 in
/-- HeadCountsModel.numberHere -/
theorem e_183 {D : Nat} {c0 c1 c2 c3 c4 c5 c6 c7 c8 c9 c10 c11 c12 c13 : Cl} {d : Ad} {h : UH} {a0 : Nat} {p1 : Int32} {p2 : Int32} {r : (Int32 × Cl)} (hD : 2 ≤ D) (hW : HW (mkw c0 c1 c2 c3 c4 c5 c6 c7 c8 c9 c10 c11 c12 c13) d h) (ha0 : aK d a0 = (0, 12, 0)) (hF : F_183 c12 a0 p1 p2 = some r) : ∃ q, EX D 183 [.ref a0, .int p1, .int p2] h q ∧ q.1 = some (.int r.1) ∧ HW (mkw c0 c1 c2 c3 c4 c5 c6 c7 c8 c9 c10 c11 r.2 c13) d q.2 := by
  obtain ⟨D, rfl⟩ : ∃ E, D = E + 1 := ⟨D - 1, by omega⟩
  unfold F_183 at hF
  refine ex_in (kl := kl_183) (nL := 5) rfl (by decide +kernel) (Nat.le_of_ble_eq_true rfl) ?_
  obtain ⟨QQ, hQQ⟩ : ∃ QQ : UR → Prop, QQ = (fun q : UR => q.1 = some (.int r.1) ∧ HW (mkw c0 c1 c2 c3 c4 c5 c6 c7 c8 c9 c10 c11 r.2 c13) d q.2) := ⟨_, rfl⟩
  rw [← hQQ]
  have hQ : ∀ h' : UH, HW (mkw c0 c1 c2 c3 c4 c5 c6 c7 c8 c9 c10 c11 r.2 c13) d h' → QQ (some (.int r.1), h') := fun h' p => by rw [hQQ]; exact ⟨rfl, p⟩
  clear hQQ
  show Ends (EX D) (u_at kl_183) (0, [some (.ref a0), some (.int p1), some (.int p2), none, none], [], h) QQ
  refine en_segs [(0, .aload_n 0, [])] (by decide +kernel) (y := (1, [some (.ref a0), some (.int p1), some (.int p2), none, none], [.ref a0], h)) rfl ?_
  obtain ⟨r1, hr1, hF⟩ := ob_some hF
  refine en_vi (r := []) (by decide +kernel : u_at kl_183 1 = some (.invokevirtual 136, [177, 0, 12])) hW ha0 rfl rfl (Nat.le_of_ble_eq_true rfl) (e_177 (D := D) (by omega) hW ha0 hr1) (fun h hW => ?_)
  have hW : HW (mkw c0 c1 c2 c3 c4 c5 c6 c7 c8 c9 c10 c11 r1.2 c13) d h := hW
  refine en_segs [(4, .pop, []), (5, .aload_n 0, []), (6, .aload_n 0, [])] (by decide +kernel) (y := (7, [some (.ref a0), some (.int p1), some (.int p2), none, none], [.ref a0, .ref a0], h)) rfl ?_
  refine en_get (by decide +kernel : u_at kl_183 7 = some (.getfield 133, [12, 8])) hW ha0 (by decide) rfl ?_
  obtain ⟨r2, hr2, hF⟩ := ob_some hF
  refine en_vi (r := []) (by decide +kernel : u_at kl_183 10 = some (.invokevirtual 151, [178, 1, 12])) hW ha0 rfl rfl (Nat.le_of_ble_eq_true rfl) (e_178 (D := D) (by omega) hW ha0 hr2) (fun h' q => ?_)
  subst q
  refine en_if_ne (by decide +kernel : u_at kl_183 13 = some (.ifCond .ne 13, [26])) (fun b3 => ?_) (fun b3 => ?_)
  · replace hF := i_pos b3 hF
    refine en_segs [(16, .aload_n 0, []), (17, .iconst 0, []), (18, .aload_n 0, [])] (by decide +kernel) (y := (19, [some (.ref a0), some (.int p1), some (.int p2), none, none], [.ref a0, .int 0, .ref a0], h)) rfl ?_
    refine en_get (by decide +kernel : u_at kl_183 19 = some (.getfield 133, [12, 8])) hW ha0 (by decide) rfl ?_
    obtain ⟨r4, hr4, hF⟩ := ob_some hF
    refine en_vi (r := []) (by decide +kernel : u_at kl_183 22 = some (.invokevirtual 154, [176, 2, 12])) hW ha0 rfl rfl (Nat.le_of_ble_eq_true rfl) (e_176 (D := D) (by omega) hW ha0 hr4) (fun h hW => ?_)
    have hW : HW (mkw c0 c1 c2 c3 c4 c5 c6 c7 c8 c9 c10 c11 r4.2 c13) d h := hW
    obtain ⟨z5, hz5, hF⟩ := ob_some hF
    obtain rfl := Option.some.inj hF
    exact en_retZ (by decide +kernel : u_at kl_183 25 = some (.ireturn, [1])) hz5 (hQ _ hW)
  · replace hF := i_neg b3 hF
    refine en_segs [(26, .aload_n 0, [])] (by decide +kernel) (y := (27, [some (.ref a0), some (.int p1), some (.int p2), none, none], [.ref a0], h)) rfl ?_
    refine en_get (by decide +kernel : u_at kl_183 27 = some (.getfield 133, [12, 8])) hW ha0 (by decide) rfl ?_
    refine en_segs [(30, .istore_n 3, []), (31, .iconst 0, []), (32, .istore 4, [])] (by decide +kernel) (y := (34, [some (.ref a0), some (.int p1), some (.int p2), some (.int (cI r1.2 8 a0)), some (.int 0)], [], h)) rfl ?_
    exact (g_183 (D := D) hD ha0 _ _ _ _ _ _ hF).1 _ _ _ _ rfl rfl rfl rfl  _ hW _ hQ
def F_184 (c12 : Cl) (a0 : Nat) : Option (Int32 × Cl) :=
  F_180 c12 a0 1751474532 >>= fun r1 =>
  if r1.1 = 0 then
  F_180 r1.2 a0 114767640814963 >>= fun r3 =>
  if r3.1 = 0 then
  F_180 r3.2 a0 24948 >>= fun r5 =>
  if r5.1 = 0 then
  F_180 r5.2 a0 1752132965 >>= fun r7 =>
  if r7.1 = 0 then
  F_180 r7.2 a0 1667329381 >>= fun r9 =>
  if r9.1 = 0 then
  F_180 r9.2 a0 1751478885 >>= fun r11 =>
  if r11.1 = 0 then
  F_180 r11.2 a0 6710647 >>= fun r13 =>
  if r13.1 = 0 then
  F_180 r13.2 a0 427121669988 >>= fun r15 =>
  if r15.1 = 0 then
  F_180 r15.2 a0 465557353332 >>= fun r17 =>
  if r17.1 = 0 then
  F_180 r17.2 a0 7454131802490631028 >>= fun r19 =>
  if r19.1 = 0 then
  F_180 r19.2 a0 1735356005 >>= fun r21 =>
  ((if r21.1 = 0 then
  F_180 r21.2 a0 120299592184933 >>= fun r25 =>
  if r25.1 = 0 then
  some ((-1), r25.2)
  else
  some (11, r25.2)
  else
  some (10, r21.2)) : Option (Int32 × Cl)) >>= fun (t22 : Int32 × Cl) =>
  some (t22.1, t22.2)
  else
  some (9, r19.2)
  else
  some (8, r17.2)
  else
  some (7, r15.2)
  else
  some (6, r13.2)
  else
  some (5, r11.2)
  else
  some (4, r9.2)
  else
  some (3, r7.2)
  else
  some (2, r5.2)
  else
  some (1, r3.2)
  else
  some (0, r1.2)
set_option maxRecDepth 100000 in
set_option maxHeartbeats 4000000 in
/-- HeadCountsModel.wordHere -/
theorem e_184 {D : Nat} {c0 c1 c2 c3 c4 c5 c6 c7 c8 c9 c10 c11 c12 c13 : Cl} {d : Ad} {h : UH} {a0 : Nat} {r : (Int32 × Cl)} (hD : 3 ≤ D) (hW : HW (mkw c0 c1 c2 c3 c4 c5 c6 c7 c8 c9 c10 c11 c12 c13) d h) (ha0 : aK d a0 = (0, 12, 0)) (hF : F_184 c12 a0 = some r) : ∃ q, EX D 184 [.ref a0] h q ∧ q.1 = some (.int r.1) ∧ HW (mkw c0 c1 c2 c3 c4 c5 c6 c7 c8 c9 c10 c11 r.2 c13) d q.2 := by
  obtain ⟨D, rfl⟩ : ∃ E, D = E + 1 := ⟨D - 1, by omega⟩
  unfold F_184 at hF
  refine ex_in (kl := kl_184) (nL := 1) rfl (by decide +kernel) (Nat.le_of_ble_eq_true rfl) ?_
  obtain ⟨QQ, hQQ⟩ : ∃ QQ : UR → Prop, QQ = (fun q : UR => q.1 = some (.int r.1) ∧ HW (mkw c0 c1 c2 c3 c4 c5 c6 c7 c8 c9 c10 c11 r.2 c13) d q.2) := ⟨_, rfl⟩
  rw [← hQQ]
  have hQ : ∀ h' : UH, HW (mkw c0 c1 c2 c3 c4 c5 c6 c7 c8 c9 c10 c11 r.2 c13) d h' → QQ (some (.int r.1), h') := fun h' p => by rw [hQQ]; exact ⟨rfl, p⟩
  clear hQQ
  show Ends (EX D) (u_at kl_184) (0, [some (.ref a0)], [], h) QQ
  refine en_segs [(0, .aload_n 0, []), (1, .ldc2_w 165, [1751474532])] (by decide +kernel) (y := (4, [some (.ref a0)], [.long 1751474532, .ref a0], h)) rfl ?_
  obtain ⟨r1, hr1, hF⟩ := ob_some hF
  refine en_vi (r := []) (by decide +kernel : u_at kl_184 4 = some (.invokevirtual 144, [180, 1, 12])) hW ha0 rfl rfl (Nat.le_of_ble_eq_true rfl) (e_180 (D := D) (by omega) hW ha0 hr1) (fun h hW => ?_)
  have hW : HW (mkw c0 c1 c2 c3 c4 c5 c6 c7 c8 c9 c10 c11 r1.2 c13) d h := hW
  refine en_if_eq (by decide +kernel : u_at kl_184 7 = some (.ifCond .eq 5, [12])) (fun b2 => ?_) (fun b2 => ?_)
  · replace hF := i_pos b2 hF
    refine en_segs [(12, .aload_n 0, []), (13, .ldc2_w 167, [114767640814963])] (by decide +kernel) (y := (16, [some (.ref a0)], [.long 114767640814963, .ref a0], h)) rfl ?_
    obtain ⟨r3, hr3, hF⟩ := ob_some hF
    refine en_vi (r := []) (by decide +kernel : u_at kl_184 16 = some (.invokevirtual 144, [180, 1, 12])) hW ha0 rfl rfl (Nat.le_of_ble_eq_true rfl) (e_180 (D := D) (by omega) hW ha0 hr3) (fun h hW => ?_)
    have hW : HW (mkw c0 c1 c2 c3 c4 c5 c6 c7 c8 c9 c10 c11 r3.2 c13) d h := hW
    refine en_if_eq (by decide +kernel : u_at kl_184 19 = some (.ifCond .eq 5, [24])) (fun b4 => ?_) (fun b4 => ?_)
    · replace hF := i_pos b4 hF
      refine en_segs [(24, .aload_n 0, []), (25, .ldc2_w 169, [24948])] (by decide +kernel) (y := (28, [some (.ref a0)], [.long 24948, .ref a0], h)) rfl ?_
      obtain ⟨r5, hr5, hF⟩ := ob_some hF
      refine en_vi (r := []) (by decide +kernel : u_at kl_184 28 = some (.invokevirtual 144, [180, 1, 12])) hW ha0 rfl rfl (Nat.le_of_ble_eq_true rfl) (e_180 (D := D) (by omega) hW ha0 hr5) (fun h hW => ?_)
      have hW : HW (mkw c0 c1 c2 c3 c4 c5 c6 c7 c8 c9 c10 c11 r5.2 c13) d h := hW
      refine en_if_eq (by decide +kernel : u_at kl_184 31 = some (.ifCond .eq 5, [36])) (fun b6 => ?_) (fun b6 => ?_)
      · replace hF := i_pos b6 hF
        refine en_segs [(36, .aload_n 0, []), (37, .ldc2_w 171, [1752132965])] (by decide +kernel) (y := (40, [some (.ref a0)], [.long 1752132965, .ref a0], h)) rfl ?_
        obtain ⟨r7, hr7, hF⟩ := ob_some hF
        refine en_vi (r := []) (by decide +kernel : u_at kl_184 40 = some (.invokevirtual 144, [180, 1, 12])) hW ha0 rfl rfl (Nat.le_of_ble_eq_true rfl) (e_180 (D := D) (by omega) hW ha0 hr7) (fun h hW => ?_)
        have hW : HW (mkw c0 c1 c2 c3 c4 c5 c6 c7 c8 c9 c10 c11 r7.2 c13) d h := hW
        refine en_if_eq (by decide +kernel : u_at kl_184 43 = some (.ifCond .eq 5, [48])) (fun b8 => ?_) (fun b8 => ?_)
        · replace hF := i_pos b8 hF
          refine en_segs [(48, .aload_n 0, []), (49, .ldc2_w 173, [1667329381])] (by decide +kernel) (y := (52, [some (.ref a0)], [.long 1667329381, .ref a0], h)) rfl ?_
          obtain ⟨r9, hr9, hF⟩ := ob_some hF
          refine en_vi (r := []) (by decide +kernel : u_at kl_184 52 = some (.invokevirtual 144, [180, 1, 12])) hW ha0 rfl rfl (Nat.le_of_ble_eq_true rfl) (e_180 (D := D) (by omega) hW ha0 hr9) (fun h hW => ?_)
          have hW : HW (mkw c0 c1 c2 c3 c4 c5 c6 c7 c8 c9 c10 c11 r9.2 c13) d h := hW
          refine en_if_eq (by decide +kernel : u_at kl_184 55 = some (.ifCond .eq 5, [60])) (fun b10 => ?_) (fun b10 => ?_)
          · replace hF := i_pos b10 hF
            refine en_segs [(60, .aload_n 0, []), (61, .ldc2_w 175, [1751478885])] (by decide +kernel) (y := (64, [some (.ref a0)], [.long 1751478885, .ref a0], h)) rfl ?_
            obtain ⟨r11, hr11, hF⟩ := ob_some hF
            refine en_vi (r := []) (by decide +kernel : u_at kl_184 64 = some (.invokevirtual 144, [180, 1, 12])) hW ha0 rfl rfl (Nat.le_of_ble_eq_true rfl) (e_180 (D := D) (by omega) hW ha0 hr11) (fun h hW => ?_)
            have hW : HW (mkw c0 c1 c2 c3 c4 c5 c6 c7 c8 c9 c10 c11 r11.2 c13) d h := hW
            refine en_if_eq (by decide +kernel : u_at kl_184 67 = some (.ifCond .eq 5, [72])) (fun b12 => ?_) (fun b12 => ?_)
            · replace hF := i_pos b12 hF
              refine en_segs [(72, .aload_n 0, []), (73, .ldc2_w 177, [6710647])] (by decide +kernel) (y := (76, [some (.ref a0)], [.long 6710647, .ref a0], h)) rfl ?_
              obtain ⟨r13, hr13, hF⟩ := ob_some hF
              refine en_vi (r := []) (by decide +kernel : u_at kl_184 76 = some (.invokevirtual 144, [180, 1, 12])) hW ha0 rfl rfl (Nat.le_of_ble_eq_true rfl) (e_180 (D := D) (by omega) hW ha0 hr13) (fun h hW => ?_)
              have hW : HW (mkw c0 c1 c2 c3 c4 c5 c6 c7 c8 c9 c10 c11 r13.2 c13) d h := hW
              refine en_if_eq (by decide +kernel : u_at kl_184 79 = some (.ifCond .eq 6, [85])) (fun b14 => ?_) (fun b14 => ?_)
              · replace hF := i_pos b14 hF
                refine en_segs [(85, .aload_n 0, []), (86, .ldc2_w 179, [427121669988])] (by decide +kernel) (y := (89, [some (.ref a0)], [.long 427121669988, .ref a0], h)) rfl ?_
                obtain ⟨r15, hr15, hF⟩ := ob_some hF
                refine en_vi (r := []) (by decide +kernel : u_at kl_184 89 = some (.invokevirtual 144, [180, 1, 12])) hW ha0 rfl rfl (Nat.le_of_ble_eq_true rfl) (e_180 (D := D) (by omega) hW ha0 hr15) (fun h hW => ?_)
                have hW : HW (mkw c0 c1 c2 c3 c4 c5 c6 c7 c8 c9 c10 c11 r15.2 c13) d h := hW
                refine en_if_eq (by decide +kernel : u_at kl_184 92 = some (.ifCond .eq 6, [98])) (fun b16 => ?_) (fun b16 => ?_)
                · replace hF := i_pos b16 hF
                  refine en_segs [(98, .aload_n 0, []), (99, .ldc2_w 181, [465557353332])] (by decide +kernel) (y := (102, [some (.ref a0)], [.long 465557353332, .ref a0], h)) rfl ?_
                  obtain ⟨r17, hr17, hF⟩ := ob_some hF
                  refine en_vi (r := []) (by decide +kernel : u_at kl_184 102 = some (.invokevirtual 144, [180, 1, 12])) hW ha0 rfl rfl (Nat.le_of_ble_eq_true rfl) (e_180 (D := D) (by omega) hW ha0 hr17) (fun h hW => ?_)
                  have hW : HW (mkw c0 c1 c2 c3 c4 c5 c6 c7 c8 c9 c10 c11 r17.2 c13) d h := hW
                  refine en_if_eq (by decide +kernel : u_at kl_184 105 = some (.ifCond .eq 6, [111])) (fun b18 => ?_) (fun b18 => ?_)
                  · replace hF := i_pos b18 hF
                    refine en_segs [(111, .aload_n 0, []), (112, .ldc2_w 183, [7454131802490631028])] (by decide +kernel) (y := (115, [some (.ref a0)], [.long 7454131802490631028, .ref a0], h)) rfl ?_
                    obtain ⟨r19, hr19, hF⟩ := ob_some hF
                    refine en_vi (r := []) (by decide +kernel : u_at kl_184 115 = some (.invokevirtual 144, [180, 1, 12])) hW ha0 rfl rfl (Nat.le_of_ble_eq_true rfl) (e_180 (D := D) (by omega) hW ha0 hr19) (fun h hW => ?_)
                    have hW : HW (mkw c0 c1 c2 c3 c4 c5 c6 c7 c8 c9 c10 c11 r19.2 c13) d h := hW
                    refine en_if_eq (by decide +kernel : u_at kl_184 118 = some (.ifCond .eq 6, [124])) (fun b20 => ?_) (fun b20 => ?_)
                    · replace hF := i_pos b20 hF
                      refine en_segs [(124, .aload_n 0, []), (125, .ldc2_w 185, [1735356005])] (by decide +kernel) (y := (128, [some (.ref a0)], [.long 1735356005, .ref a0], h)) rfl ?_
                      obtain ⟨r21, hr21, hF⟩ := ob_some hF
                      refine en_vi (r := []) (by decide +kernel : u_at kl_184 128 = some (.invokevirtual 144, [180, 1, 12])) hW ha0 rfl rfl (Nat.le_of_ble_eq_true rfl) (e_180 (D := D) (by omega) hW ha0 hr21) (fun h hW => ?_)
                      have hW : HW (mkw c0 c1 c2 c3 c4 c5 c6 c7 c8 c9 c10 c11 r21.2 c13) d h := hW
                      obtain ⟨t22, hX, hK⟩ := ob_some hF
                      have j23 : ∀ h : UH, HW (mkw c0 c1 c2 c3 c4 c5 c6 c7 c8 c9 c10 c11 t22.2 c13) d h → Ends (EX D) (u_at kl_184) (155, [some (.ref a0)], [.int t22.1], h) QQ := by
                        intro h hW
                        have hF := hK
                        obtain rfl := Option.some.inj hF
                        exact en_ret (by decide +kernel : u_at kl_184 155 = some (.ireturn, [0])) rfl (hQ _ hW)
                      have hF := hX
                      refine en_if_eq (by decide +kernel : u_at kl_184 131 = some (.ifCond .eq 8, [139])) (fun b24 => ?_) (fun b24 => ?_)
                      · replace hF := i_pos b24 hF
                        refine en_segs [(139, .aload_n 0, []), (140, .ldc2_w 187, [120299592184933])] (by decide +kernel) (y := (143, [some (.ref a0)], [.long 120299592184933, .ref a0], h)) rfl ?_
                        obtain ⟨r25, hr25, hF⟩ := ob_some hF
                        refine en_vi (r := []) (by decide +kernel : u_at kl_184 143 = some (.invokevirtual 144, [180, 1, 12])) hW ha0 rfl rfl (Nat.le_of_ble_eq_true rfl) (e_180 (D := D) (by omega) hW ha0 hr25) (fun h hW => ?_)
                        have hW : HW (mkw c0 c1 c2 c3 c4 c5 c6 c7 c8 c9 c10 c11 r25.2 c13) d h := hW
                        refine en_if_eq (by decide +kernel : u_at kl_184 146 = some (.ifCond .eq 8, [154])) (fun b26 => ?_) (fun b26 => ?_)
                        · replace hF := i_pos b26 hF
                          refine en_segs [(154, .iconst (-1), [])] (by decide +kernel) (y := (155, [some (.ref a0)], [.int (-1)], h)) rfl ?_
                          obtain rfl := Option.some.inj hF
                          exact j23 _ hW
                        · replace hF := i_neg b26 hF
                          refine en_segs [(149, .bipush 11, []), (151, .goto 4, [155])] (by decide +kernel) (y := (155, [some (.ref a0)], [.int 11], h)) rfl ?_
                          obtain rfl := Option.some.inj hF
                          exact j23 _ hW
                      · replace hF := i_neg b24 hF
                        refine en_segs [(134, .bipush 10, []), (136, .goto 19, [155])] (by decide +kernel) (y := (155, [some (.ref a0)], [.int 10], h)) rfl ?_
                        obtain rfl := Option.some.inj hF
                        exact j23 _ hW
                    · replace hF := i_neg b20 hF
                      refine en_segs [(121, .bipush 9, [])] (by decide +kernel) (y := (123, [some (.ref a0)], [.int 9], h)) rfl ?_
                      obtain rfl := Option.some.inj hF
                      exact en_ret (by decide +kernel : u_at kl_184 123 = some (.ireturn, [0])) rfl (hQ _ hW)
                  · replace hF := i_neg b18 hF
                    refine en_segs [(108, .bipush 8, [])] (by decide +kernel) (y := (110, [some (.ref a0)], [.int 8], h)) rfl ?_
                    obtain rfl := Option.some.inj hF
                    exact en_ret (by decide +kernel : u_at kl_184 110 = some (.ireturn, [0])) rfl (hQ _ hW)
                · replace hF := i_neg b16 hF
                  refine en_segs [(95, .bipush 7, [])] (by decide +kernel) (y := (97, [some (.ref a0)], [.int 7], h)) rfl ?_
                  obtain rfl := Option.some.inj hF
                  exact en_ret (by decide +kernel : u_at kl_184 97 = some (.ireturn, [0])) rfl (hQ _ hW)
              · replace hF := i_neg b14 hF
                refine en_segs [(82, .bipush 6, [])] (by decide +kernel) (y := (84, [some (.ref a0)], [.int 6], h)) rfl ?_
                obtain rfl := Option.some.inj hF
                exact en_ret (by decide +kernel : u_at kl_184 84 = some (.ireturn, [0])) rfl (hQ _ hW)
            · replace hF := i_neg b12 hF
              refine en_segs [(70, .iconst 5, [])] (by decide +kernel) (y := (71, [some (.ref a0)], [.int 5], h)) rfl ?_
              obtain rfl := Option.some.inj hF
              exact en_ret (by decide +kernel : u_at kl_184 71 = some (.ireturn, [0])) rfl (hQ _ hW)
          · replace hF := i_neg b10 hF
            refine en_segs [(58, .iconst 4, [])] (by decide +kernel) (y := (59, [some (.ref a0)], [.int 4], h)) rfl ?_
            obtain rfl := Option.some.inj hF
            exact en_ret (by decide +kernel : u_at kl_184 59 = some (.ireturn, [0])) rfl (hQ _ hW)
        · replace hF := i_neg b8 hF
          refine en_segs [(46, .iconst 3, [])] (by decide +kernel) (y := (47, [some (.ref a0)], [.int 3], h)) rfl ?_
          obtain rfl := Option.some.inj hF
          exact en_ret (by decide +kernel : u_at kl_184 47 = some (.ireturn, [0])) rfl (hQ _ hW)
      · replace hF := i_neg b6 hF
        refine en_segs [(34, .iconst 2, [])] (by decide +kernel) (y := (35, [some (.ref a0)], [.int 2], h)) rfl ?_
        obtain rfl := Option.some.inj hF
        exact en_ret (by decide +kernel : u_at kl_184 35 = some (.ireturn, [0])) rfl (hQ _ hW)
    · replace hF := i_neg b4 hF
      refine en_segs [(22, .iconst 1, [])] (by decide +kernel) (y := (23, [some (.ref a0)], [.int 1], h)) rfl ?_
      obtain rfl := Option.some.inj hF
      exact en_ret (by decide +kernel : u_at kl_184 23 = some (.ireturn, [0])) rfl (hQ _ hW)
  · replace hF := i_neg b2 hF
    refine en_segs [(10, .iconst 0, [])] (by decide +kernel) (y := (11, [some (.ref a0)], [.int 0], h)) rfl ?_
    obtain rfl := Option.some.inj hF
    exact en_ret (by decide +kernel : u_at kl_184 11 = some (.ireturn, [0])) rfl (hQ _ hW)
def F_185 (c12 : Cl) (a0 : Nat) (p1 : Int32) (p2 : Int32) : Option Cl :=
  ald (cA c12 4 a0) 7 (cI c12 11 a0) >>= fun v1 =>
  ast c12 3 a0 2400 ((400 * (cI c12 11 a0)) + v1) (p1 + (16 * p2)) >>= fun c12_2 =>
  ald (cA c12_2 4 a0) 7 (cI c12_2 11 a0) >>= fun v3 =>
  ast c12_2 4 a0 7 (cI c12_2 11 a0) (v3 + 1) >>= fun c12_4 =>
  some c12_4
set_option maxRecDepth 100000 in
set_option maxHeartbeats 4000000 in
/-- HeadCountsModel.puts -/
theorem e_185 {D : Nat} {c0 c1 c2 c3 c4 c5 c6 c7 c8 c9 c10 c11 c12 c13 : Cl} {d : Ad} {h : UH} {a0 : Nat} {p1 : Int32} {p2 : Int32} {r : Cl} (hD : 1 ≤ D) (hW : HW (mkw c0 c1 c2 c3 c4 c5 c6 c7 c8 c9 c10 c11 c12 c13) d h) (ha0 : aK d a0 = (0, 12, 0)) (hF : F_185 c12 a0 p1 p2 = some r) : ∃ q, EX D 185 [.ref a0, .int p1, .int p2] h q ∧ q.1 = none ∧ HW (mkw c0 c1 c2 c3 c4 c5 c6 c7 c8 c9 c10 c11 r c13) d q.2 := by
  obtain ⟨D, rfl⟩ : ∃ E, D = E + 1 := ⟨D - 1, by omega⟩
  unfold F_185 at hF
  refine ex_in (kl := kl_185) (nL := 3) rfl (by decide +kernel) (Nat.le_of_ble_eq_true rfl) ?_
  obtain ⟨QQ, hQQ⟩ : ∃ QQ : UR → Prop, QQ = (fun q : UR => q.1 = none ∧ HW (mkw c0 c1 c2 c3 c4 c5 c6 c7 c8 c9 c10 c11 r c13) d q.2) := ⟨_, rfl⟩
  rw [← hQQ]
  have hQ : ∀ h' : UH, HW (mkw c0 c1 c2 c3 c4 c5 c6 c7 c8 c9 c10 c11 r c13) d h' → QQ (none, h') := fun h' p => by rw [hQQ]; exact ⟨rfl, p⟩
  clear hQQ
  show Ends (EX D) (u_at kl_185) (0, [some (.ref a0), some (.int p1), some (.int p2)], [], h) QQ
  refine en_segs [(0, .aload_n 0, [])] (by decide +kernel) (y := (1, [some (.ref a0), some (.int p1), some (.int p2)], [.ref a0], h)) rfl ?_
  refine en_get (by decide +kernel : u_at kl_185 1 = some (.getfield 13, [12, 3])) hW ha0 (by decide) rfl ?_
  refine en_segs [(4, .sipush 400, []), (7, .aload_n 0, [])] (by decide +kernel) (y := (8, [some (.ref a0), some (.int p1), some (.int p2)], [.ref a0, .int 400, .ref (aP d 12 3 a0)], h)) rfl ?_
  refine en_get (by decide +kernel : u_at kl_185 8 = some (.getfield 189, [12, 11])) hW ha0 (by decide) rfl ?_
  refine en_segs [(11, .imul, []), (12, .aload_n 0, [])] (by decide +kernel) (y := (13, [some (.ref a0), some (.int p1), some (.int p2)], [.ref a0, .int (400 * (cI c12 11 a0)), .ref (aP d 12 3 a0)], h)) rfl ?_
  refine en_get (by decide +kernel : u_at kl_185 13 = some (.getfield 17, [12, 4])) hW ha0 (by decide) rfl ?_
  refine en_segs [(16, .aload_n 0, [])] (by decide +kernel) (y := (17, [some (.ref a0), some (.int p1), some (.int p2)], [.ref a0, .ref (aP d 12 4 a0), .int (400 * (cI c12 11 a0)), .ref (aP d 12 3 a0)], h)) rfl ?_
  refine en_get (by decide +kernel : u_at kl_185 17 = some (.getfield 189, [12, 11])) hW ha0 (by decide) rfl ?_
  obtain ⟨v1, hv1, hF⟩ := ob_some hF
  refine en_iald (by decide +kernel : u_at kl_185 20 = some (.iaload, [])) hW ha0 rfl (by decide) hv1 ?_
  refine en_segs [(21, .iadd, []), (22, .iload_n 1, []), (23, .bipush 16, []), (25, .iload_n 2, []), (26, .imul, []), (27, .iadd, [])] (by decide +kernel) (y := (28, [some (.ref a0), some (.int p1), some (.int p2)], [.int (p1 + (16 * p2)), .int ((400 * (cI c12 11 a0)) + v1), .ref (aP d 12 3 a0)], h)) rfl ?_
  obtain ⟨c12_2, hc12_2, hF⟩ := ob_some hF
  refine en_iast (by decide +kernel : u_at kl_185 28 = some (.iastore, [])) hW ha0 rfl (by decide) hc12_2 (fun h hW => ?_)
  have hW : HW (mkw c0 c1 c2 c3 c4 c5 c6 c7 c8 c9 c10 c11 c12_2 c13) d h := hW
  refine en_segs [(29, .aload_n 0, [])] (by decide +kernel) (y := (30, [some (.ref a0), some (.int p1), some (.int p2)], [.ref a0], h)) rfl ?_
  refine en_get (by decide +kernel : u_at kl_185 30 = some (.getfield 17, [12, 4])) hW ha0 (by decide) rfl ?_
  refine en_segs [(33, .aload_n 0, [])] (by decide +kernel) (y := (34, [some (.ref a0), some (.int p1), some (.int p2)], [.ref a0, .ref (aP d 12 4 a0)], h)) rfl ?_
  refine en_get (by decide +kernel : u_at kl_185 34 = some (.getfield 189, [12, 11])) hW ha0 (by decide) rfl ?_
  refine en_segs [(37, .dup2, [])] (by decide +kernel) (y := (38, [some (.ref a0), some (.int p1), some (.int p2)], [.int (cI c12_2 11 a0), .ref (aP d 12 4 a0), .int (cI c12_2 11 a0), .ref (aP d 12 4 a0)], h)) rfl ?_
  obtain ⟨v3, hv3, hF⟩ := ob_some hF
  refine en_iald (by decide +kernel : u_at kl_185 38 = some (.iaload, [])) hW ha0 rfl (by decide) hv3 ?_
  refine en_segs [(39, .iconst 1, []), (40, .iadd, [])] (by decide +kernel) (y := (41, [some (.ref a0), some (.int p1), some (.int p2)], [.int (v3 + 1), .int (cI c12_2 11 a0), .ref (aP d 12 4 a0)], h)) rfl ?_
  obtain ⟨c12_4, hc12_4, hF⟩ := ob_some hF
  refine en_iast (by decide +kernel : u_at kl_185 41 = some (.iastore, [])) hW ha0 rfl (by decide) hc12_4 (fun h hW => ?_)
  have hW : HW (mkw c0 c1 c2 c3 c4 c5 c6 c7 c8 c9 c10 c11 c12_4 c13) d h := hW
  obtain rfl := Option.some.inj hF
  exact en_ret (by decide +kernel : u_at kl_185 42 = some (.return_, [])) rfl (hQ _ hW)
def F_186 (c12 : Cl) (a0 : Nat) (p1 : Int32) : Option (Int32 × Cl) :=
  if (cI c12 12 a0) = 60 then
  F_176 c12 a0 3 p1 >>= fun r2 =>
  zb r2.1 >>= fun z3 => some (z3, r2.2)
  else
  some (sI c12 12 a0 ((cI c12 12 a0) + 1)) >>= fun c12_4 =>
  some (1, c12_4)
set_option maxRecDepth 100000 in
set_option maxHeartbeats 4000000 in
/-- HeadCountsModel.makes -/
theorem e_186 {D : Nat} {c0 c1 c2 c3 c4 c5 c6 c7 c8 c9 c10 c11 c12 c13 : Cl} {d : Ad} {h : UH} {a0 : Nat} {p1 : Int32} {r : (Int32 × Cl)} (hD : 2 ≤ D) (hW : HW (mkw c0 c1 c2 c3 c4 c5 c6 c7 c8 c9 c10 c11 c12 c13) d h) (ha0 : aK d a0 = (0, 12, 0)) (hF : F_186 c12 a0 p1 = some r) : ∃ q, EX D 186 [.ref a0, .int p1] h q ∧ q.1 = some (.int r.1) ∧ HW (mkw c0 c1 c2 c3 c4 c5 c6 c7 c8 c9 c10 c11 r.2 c13) d q.2 := by
  obtain ⟨D, rfl⟩ : ∃ E, D = E + 1 := ⟨D - 1, by omega⟩
  unfold F_186 at hF
  refine ex_in (kl := kl_186) (nL := 2) rfl (by decide +kernel) (Nat.le_of_ble_eq_true rfl) ?_
  obtain ⟨QQ, hQQ⟩ : ∃ QQ : UR → Prop, QQ = (fun q : UR => q.1 = some (.int r.1) ∧ HW (mkw c0 c1 c2 c3 c4 c5 c6 c7 c8 c9 c10 c11 r.2 c13) d q.2) := ⟨_, rfl⟩
  rw [← hQQ]
  have hQ : ∀ h' : UH, HW (mkw c0 c1 c2 c3 c4 c5 c6 c7 c8 c9 c10 c11 r.2 c13) d h' → QQ (some (.int r.1), h') := fun h' p => by rw [hQQ]; exact ⟨rfl, p⟩
  clear hQQ
  show Ends (EX D) (u_at kl_186) (0, [some (.ref a0), some (.int p1)], [], h) QQ
  refine en_segs [(0, .aload_n 0, [])] (by decide +kernel) (y := (1, [some (.ref a0), some (.int p1)], [.ref a0], h)) rfl ?_
  refine en_get (by decide +kernel : u_at kl_186 1 = some (.getfield 192, [12, 12])) hW ha0 (by decide) rfl ?_
  refine en_segs [(4, .bipush 60, [])] (by decide +kernel) (y := (6, [some (.ref a0), some (.int p1)], [.int 60, .int (cI c12 12 a0)], h)) rfl ?_
  refine en_ic_ne (by decide +kernel : u_at kl_186 6 = some (.if_icmp .ne 10, [16])) (fun b1 => ?_) (fun b1 => ?_)
  · replace hF := i_pos b1 hF
    refine en_segs [(9, .aload_n 0, []), (10, .iconst 3, []), (11, .iload_n 1, [])] (by decide +kernel) (y := (12, [some (.ref a0), some (.int p1)], [.int p1, .int 3, .ref a0], h)) rfl ?_
    obtain ⟨r2, hr2, hF⟩ := ob_some hF
    refine en_vi (r := []) (by decide +kernel : u_at kl_186 12 = some (.invokevirtual 154, [176, 2, 12])) hW ha0 rfl rfl (Nat.le_of_ble_eq_true rfl) (e_176 (D := D) (by omega) hW ha0 hr2) (fun h hW => ?_)
    have hW : HW (mkw c0 c1 c2 c3 c4 c5 c6 c7 c8 c9 c10 c11 r2.2 c13) d h := hW
    obtain ⟨z3, hz3, hF⟩ := ob_some hF
    obtain rfl := Option.some.inj hF
    exact en_retZ (by decide +kernel : u_at kl_186 15 = some (.ireturn, [1])) hz3 (hQ _ hW)
  · replace hF := i_neg b1 hF
    refine en_segs [(16, .aload_n 0, []), (17, .dup, [])] (by decide +kernel) (y := (18, [some (.ref a0), some (.int p1)], [.ref a0, .ref a0], h)) rfl ?_
    refine en_get (by decide +kernel : u_at kl_186 18 = some (.getfield 192, [12, 12])) hW ha0 (by decide) rfl ?_
    refine en_segs [(21, .iconst 1, []), (22, .iadd, [])] (by decide +kernel) (y := (23, [some (.ref a0), some (.int p1)], [.int ((cI c12 12 a0) + 1), .ref a0], h)) rfl ?_
    obtain ⟨c12_4, hc12_4, hF⟩ := ob_some hF
    refine en_putI (by decide +kernel : u_at kl_186 23 = some (.putfield 192, [12, 12, 0])) hW ha0 rfl (by decide) rfl (fun h hW => ?_)
    have hW : HW (mkw c0 c1 c2 c3 c4 c5 c6 c7 c8 c9 c10 c11 c12_4 c13) d h := by rw [← Option.some.inj hc12_4]; exact hW
    refine en_segs [(26, .iconst 1, [])] (by decide +kernel) (y := (27, [some (.ref a0), some (.int p1)], [.int 1], h)) rfl ?_
    obtain rfl := Option.some.inj hF
    exact en_ret (by decide +kernel : u_at kl_186 27 = some (.ireturn, [1])) rfl (hQ _ hW)
def F_187 (c12 : Cl) (a0 : Nat) (p1 : Int32) : Option (Int32 × Cl) :=
  if (cI c12 13 a0) = 10 then
  F_176 c12 a0 2 (cI c12 8 a0) >>= fun r2 =>
  zb r2.1 >>= fun z3 => some (z3, r2.2)
  else
  some (sI c12 13 a0 ((cI c12 13 a0) + 1)) >>= fun c12_4 =>
  ast c12_4 15 a0 400 (cI c12_4 16 a0) p1 >>= fun c12_5 =>
  some (sI c12_5 16 a0 ((cI c12_5 16 a0) + 1)) >>= fun c12_6 =>
  some (1, c12_6)
set_option maxRecDepth 100000 in
set_option maxHeartbeats 4000000 in
/-- HeadCountsModel.opens -/
theorem e_187 {D : Nat} {c0 c1 c2 c3 c4 c5 c6 c7 c8 c9 c10 c11 c12 c13 : Cl} {d : Ad} {h : UH} {a0 : Nat} {p1 : Int32} {r : (Int32 × Cl)} (hD : 2 ≤ D) (hW : HW (mkw c0 c1 c2 c3 c4 c5 c6 c7 c8 c9 c10 c11 c12 c13) d h) (ha0 : aK d a0 = (0, 12, 0)) (hF : F_187 c12 a0 p1 = some r) : ∃ q, EX D 187 [.ref a0, .int p1] h q ∧ q.1 = some (.int r.1) ∧ HW (mkw c0 c1 c2 c3 c4 c5 c6 c7 c8 c9 c10 c11 r.2 c13) d q.2 := by
  obtain ⟨D, rfl⟩ : ∃ E, D = E + 1 := ⟨D - 1, by omega⟩
  unfold F_187 at hF
  refine ex_in (kl := kl_187) (nL := 2) rfl (by decide +kernel) (Nat.le_of_ble_eq_true rfl) ?_
  obtain ⟨QQ, hQQ⟩ : ∃ QQ : UR → Prop, QQ = (fun q : UR => q.1 = some (.int r.1) ∧ HW (mkw c0 c1 c2 c3 c4 c5 c6 c7 c8 c9 c10 c11 r.2 c13) d q.2) := ⟨_, rfl⟩
  rw [← hQQ]
  have hQ : ∀ h' : UH, HW (mkw c0 c1 c2 c3 c4 c5 c6 c7 c8 c9 c10 c11 r.2 c13) d h' → QQ (some (.int r.1), h') := fun h' p => by rw [hQQ]; exact ⟨rfl, p⟩
  clear hQQ
  show Ends (EX D) (u_at kl_187) (0, [some (.ref a0), some (.int p1)], [], h) QQ
  refine en_segs [(0, .aload_n 0, [])] (by decide +kernel) (y := (1, [some (.ref a0), some (.int p1)], [.ref a0], h)) rfl ?_
  refine en_get (by decide +kernel : u_at kl_187 1 = some (.getfield 195, [12, 13])) hW ha0 (by decide) rfl ?_
  refine en_segs [(4, .bipush 10, [])] (by decide +kernel) (y := (6, [some (.ref a0), some (.int p1)], [.int 10, .int (cI c12 13 a0)], h)) rfl ?_
  refine en_ic_ne (by decide +kernel : u_at kl_187 6 = some (.if_icmp .ne 13, [19])) (fun b1 => ?_) (fun b1 => ?_)
  · replace hF := i_pos b1 hF
    refine en_segs [(9, .aload_n 0, []), (10, .iconst 2, []), (11, .aload_n 0, [])] (by decide +kernel) (y := (12, [some (.ref a0), some (.int p1)], [.ref a0, .int 2, .ref a0], h)) rfl ?_
    refine en_get (by decide +kernel : u_at kl_187 12 = some (.getfield 133, [12, 8])) hW ha0 (by decide) rfl ?_
    obtain ⟨r2, hr2, hF⟩ := ob_some hF
    refine en_vi (r := []) (by decide +kernel : u_at kl_187 15 = some (.invokevirtual 154, [176, 2, 12])) hW ha0 rfl rfl (Nat.le_of_ble_eq_true rfl) (e_176 (D := D) (by omega) hW ha0 hr2) (fun h hW => ?_)
    have hW : HW (mkw c0 c1 c2 c3 c4 c5 c6 c7 c8 c9 c10 c11 r2.2 c13) d h := hW
    obtain ⟨z3, hz3, hF⟩ := ob_some hF
    obtain rfl := Option.some.inj hF
    exact en_retZ (by decide +kernel : u_at kl_187 18 = some (.ireturn, [1])) hz3 (hQ _ hW)
  · replace hF := i_neg b1 hF
    refine en_segs [(19, .aload_n 0, []), (20, .dup, [])] (by decide +kernel) (y := (21, [some (.ref a0), some (.int p1)], [.ref a0, .ref a0], h)) rfl ?_
    refine en_get (by decide +kernel : u_at kl_187 21 = some (.getfield 195, [12, 13])) hW ha0 (by decide) rfl ?_
    refine en_segs [(24, .iconst 1, []), (25, .iadd, [])] (by decide +kernel) (y := (26, [some (.ref a0), some (.int p1)], [.int ((cI c12 13 a0) + 1), .ref a0], h)) rfl ?_
    obtain ⟨c12_4, hc12_4, hF⟩ := ob_some hF
    refine en_putI (by decide +kernel : u_at kl_187 26 = some (.putfield 195, [12, 13, 0])) hW ha0 rfl (by decide) rfl (fun h hW => ?_)
    have hW : HW (mkw c0 c1 c2 c3 c4 c5 c6 c7 c8 c9 c10 c11 c12_4 c13) d h := by rw [← Option.some.inj hc12_4]; exact hW
    refine en_segs [(29, .aload_n 0, [])] (by decide +kernel) (y := (30, [some (.ref a0), some (.int p1)], [.ref a0], h)) rfl ?_
    refine en_get (by decide +kernel : u_at kl_187 30 = some (.getfield 29, [12, 15])) hW ha0 (by decide) rfl ?_
    refine en_segs [(33, .aload_n 0, [])] (by decide +kernel) (y := (34, [some (.ref a0), some (.int p1)], [.ref a0, .ref (aP d 12 15 a0)], h)) rfl ?_
    refine en_get (by decide +kernel : u_at kl_187 34 = some (.getfield 198, [12, 16])) hW ha0 (by decide) rfl ?_
    refine en_segs [(37, .iload_n 1, [])] (by decide +kernel) (y := (38, [some (.ref a0), some (.int p1)], [.int p1, .int (cI c12_4 16 a0), .ref (aP d 12 15 a0)], h)) rfl ?_
    obtain ⟨c12_5, hc12_5, hF⟩ := ob_some hF
    refine en_iast (by decide +kernel : u_at kl_187 38 = some (.iastore, [])) hW ha0 rfl (by decide) hc12_5 (fun h hW => ?_)
    have hW : HW (mkw c0 c1 c2 c3 c4 c5 c6 c7 c8 c9 c10 c11 c12_5 c13) d h := hW
    refine en_segs [(39, .aload_n 0, []), (40, .dup, [])] (by decide +kernel) (y := (41, [some (.ref a0), some (.int p1)], [.ref a0, .ref a0], h)) rfl ?_
    refine en_get (by decide +kernel : u_at kl_187 41 = some (.getfield 198, [12, 16])) hW ha0 (by decide) rfl ?_
    refine en_segs [(44, .iconst 1, []), (45, .iadd, [])] (by decide +kernel) (y := (46, [some (.ref a0), some (.int p1)], [.int ((cI c12_5 16 a0) + 1), .ref a0], h)) rfl ?_
    obtain ⟨c12_6, hc12_6, hF⟩ := ob_some hF
    refine en_putI (by decide +kernel : u_at kl_187 46 = some (.putfield 198, [12, 16, 0])) hW ha0 rfl (by decide) rfl (fun h hW => ?_)
    have hW : HW (mkw c0 c1 c2 c3 c4 c5 c6 c7 c8 c9 c10 c11 c12_6 c13) d h := by rw [← Option.some.inj hc12_6]; exact hW
    refine en_segs [(49, .iconst 1, [])] (by decide +kernel) (y := (50, [some (.ref a0), some (.int p1)], [.int 1], h)) rfl ?_
    obtain rfl := Option.some.inj hF
    exact en_ret (by decide +kernel : u_at kl_187 50 = some (.ireturn, [1])) rfl (hQ _ hW)
def F_188 (p1 : Int32) : Option Int32 :=
  ((if p1 = 13 then
  some 1
  else
  if p1 = 12 then
  some 2
  else
  if p1 = 11 then
  some 3
  else
  some 0) : Option (Int32)) >>= fun (t1 : Int32) =>
  some t1
set_option maxRecDepth 100000 in
set_option maxHeartbeats 4000000 in
/-- HeadCountsModel.strength -/
theorem e_188 {D : Nat} {c0 c1 c2 c3 c4 c5 c6 c7 c8 c9 c10 c11 c12 c13 : Cl} {d : Ad} {h : UH} {p1 : Int32} {r : Int32} (hD : 1 ≤ D) (hW : HW (mkw c0 c1 c2 c3 c4 c5 c6 c7 c8 c9 c10 c11 c12 c13) d h) (hF : F_188 p1 = some r) : ∃ q, EX D 188 [.int p1] h q ∧ q.1 = some (.int r) ∧ h = q.2 := by
  obtain ⟨D, rfl⟩ : ∃ E, D = E + 1 := ⟨D - 1, by omega⟩
  unfold F_188 at hF
  refine ex_in (kl := kl_188) (nL := 1) rfl (by decide +kernel) (Nat.le_of_ble_eq_true rfl) ?_
  obtain ⟨QQ, hQQ⟩ : ∃ QQ : UR → Prop, QQ = (fun q : UR => q.1 = some (.int r) ∧ h = q.2) := ⟨_, rfl⟩
  rw [← hQQ]
  have hQ : QQ (some (.int r), h) := by rw [hQQ]; exact ⟨rfl, rfl⟩
  clear hQQ
  show Ends (EX D) (u_at kl_188) (0, [some (.int p1)], [], h) QQ
  refine en_segs [(0, .iload_n 0, []), (1, .bipush 13, [])] (by decide +kernel) (y := (3, [some (.int p1)], [.int 13, .int p1], h)) rfl ?_
  obtain ⟨t1, hX, hK⟩ := ob_some hF
  have j2 : Ends (EX D) (u_at kl_188) (31, [some (.int p1)], [.int t1], h) QQ := by
    have hF := hK
    obtain rfl := Option.some.inj hF
    exact en_ret (by decide +kernel : u_at kl_188 31 = some (.ireturn, [0])) rfl (hQ)
  have hF := hX
  refine en_ic_ne (by decide +kernel : u_at kl_188 3 = some (.if_icmp .ne 7, [10])) (fun b3 => ?_) (fun b3 => ?_)
  · replace hF := i_pos b3 hF
    refine en_segs [(6, .iconst 1, []), (7, .goto 24, [31])] (by decide +kernel) (y := (31, [some (.int p1)], [.int 1], h)) rfl ?_
    obtain rfl := Option.some.inj hF
    exact j2
  · replace hF := i_neg b3 hF
    refine en_segs [(10, .iload_n 0, []), (11, .bipush 12, [])] (by decide +kernel) (y := (13, [some (.int p1)], [.int 12, .int p1], h)) rfl ?_
    refine en_ic_ne (by decide +kernel : u_at kl_188 13 = some (.if_icmp .ne 7, [20])) (fun b4 => ?_) (fun b4 => ?_)
    · replace hF := i_pos b4 hF
      refine en_segs [(16, .iconst 2, []), (17, .goto 14, [31])] (by decide +kernel) (y := (31, [some (.int p1)], [.int 2], h)) rfl ?_
      obtain rfl := Option.some.inj hF
      exact j2
    · replace hF := i_neg b4 hF
      refine en_segs [(20, .iload_n 0, []), (21, .bipush 11, [])] (by decide +kernel) (y := (23, [some (.int p1)], [.int 11, .int p1], h)) rfl ?_
      refine en_ic_ne (by decide +kernel : u_at kl_188 23 = some (.if_icmp .ne 7, [30])) (fun b5 => ?_) (fun b5 => ?_)
      · replace hF := i_pos b5 hF
        refine en_segs [(26, .iconst 3, []), (27, .goto 4, [31])] (by decide +kernel) (y := (31, [some (.int p1)], [.int 3], h)) rfl ?_
        obtain rfl := Option.some.inj hF
        exact j2
      · replace hF := i_neg b5 hF
        refine en_segs [(30, .iconst 0, [])] (by decide +kernel) (y := (31, [some (.int p1)], [.int 0], h)) rfl ?_
        obtain rfl := Option.some.inj hF
        exact j2
def G_189 (a0 : Nat) (lab : Nat) (xs : List Int32) (ys : List Int64) (zs : List Nat) (c12 : Cl) : Option Cl := match lab, xs, ys, zs with
  | 0, [x1], [], [] =>
    if (cI c12 16 a0) ≤ 0 then
    some c12
    else
    ald (cA c12 15 a0) 400 ((cI c12 16 a0) - 1) >>= fun v2 =>
    F_188 v2 >>= fun r3 =>
    if r3 < x1 then
    some c12
    else
    some (sI c12 16 a0 ((cI c12 16 a0) - 1)) >>= fun c12_5 =>
    ald (cA c12_5 15 a0) 400 (cI c12_5 16 a0) >>= fun v6 =>
    F_185 c12_5 a0 v6 0 >>= fun r7 =>
    ald (cA r7 15 a0) 400 (cI r7 16 a0) >>= fun v8 =>
    if v8 = 11 then
    some (sI r7 13 a0 ((cI r7 13 a0) - 1)) >>= fun c12_10 =>
    G_189 a0 0 [x1] [] [] c12_10
    else
    G_189 a0 0 [x1] [] [] r7
  | _, _, _, _ => none
partial_fixpoint
set_option maxRecDepth 100000 in
set_option maxHeartbeats 4000000 in
theorem g_189 {D : Nat} (hD : 2 ≤ D + 1) {c0 c1 c2 c3 c4 c5 c6 c7 c8 c9 c10 c11 c13 : Cl} {d : Ad} {a0 : Nat} (ha0 : aK d a0 = (0, 12, 0)) : ∀ (lab : Nat) (xs : List Int32) (ys : List Int64) (zs : List Nat) (c12 : Cl) (r : Cl), G_189 a0 lab xs ys zs c12 = some r →
    (∀ (x1 : Int32), lab = 0 → xs = [x1] → ys = [] → zs = [] → ∀ h : UH, HW (mkw c0 c1 c2 c3 c4 c5 c6 c7 c8 c9 c10 c11 c12 c13) d h → ∀ QQ : UR → Prop, (∀ h' : UH, HW (mkw c0 c1 c2 c3 c4 c5 c6 c7 c8 c9 c10 c11 r c13) d h' → QQ (none, h')) → Ends (EX D) (u_at kl_189) (0, [some (.ref a0), some (.int x1)], [], h) QQ) := by
  refine G_189.partial_correctness _ (motive := fun lab xs ys zs c12 r =>
    (∀ (x1 : Int32), lab = 0 → xs = [x1] → ys = [] → zs = [] → ∀ h : UH, HW (mkw c0 c1 c2 c3 c4 c5 c6 c7 c8 c9 c10 c11 c12 c13) d h → ∀ QQ : UR → Prop, (∀ h' : UH, HW (mkw c0 c1 c2 c3 c4 c5 c6 c7 c8 c9 c10 c11 r c13) d h' → QQ (none, h')) → Ends (EX D) (u_at kl_189) (0, [some (.ref a0), some (.int x1)], [], h) QQ)) ?_
  intro G ih lab xs ys zs c12 r hF
  · intro x1 e1 e2 e3 e4 h hW QQ hQ
    subst e1 e2 e3 e4
    refine en_segs [(0, .aload_n 0, [])] (by decide +kernel) (y := (1, [some (.ref a0), some (.int x1)], [.ref a0], h)) rfl ?_
    refine en_get (by decide +kernel : u_at kl_189 1 = some (.getfield 198, [12, 16])) hW ha0 (by decide) rfl ?_
    refine en_if_le (by decide +kernel : u_at kl_189 4 = some (.ifCond .le 72, [76])) (fun b1 => ?_) (fun b1 => ?_)
    · replace hF := i_pos b1 hF
      obtain rfl := Option.some.inj hF
      exact en_ret (by decide +kernel : u_at kl_189 76 = some (.return_, [])) rfl (hQ _ hW)
    · replace hF := i_neg b1 hF
      refine en_segs [(7, .aload_n 0, [])] (by decide +kernel) (y := (8, [some (.ref a0), some (.int x1)], [.ref a0], h)) rfl ?_
      refine en_get (by decide +kernel : u_at kl_189 8 = some (.getfield 29, [12, 15])) hW ha0 (by decide) rfl ?_
      refine en_segs [(11, .aload_n 0, [])] (by decide +kernel) (y := (12, [some (.ref a0), some (.int x1)], [.ref a0, .ref (aP d 12 15 a0)], h)) rfl ?_
      refine en_get (by decide +kernel : u_at kl_189 12 = some (.getfield 198, [12, 16])) hW ha0 (by decide) rfl ?_
      refine en_segs [(15, .iconst 1, []), (16, .isub, [])] (by decide +kernel) (y := (17, [some (.ref a0), some (.int x1)], [.int ((cI c12 16 a0) - 1), .ref (aP d 12 15 a0)], h)) rfl ?_
      obtain ⟨v2, hv2, hF⟩ := ob_some hF
      refine en_iald (by decide +kernel : u_at kl_189 17 = some (.iaload, [])) hW ha0 rfl (by decide) hv2 ?_
      obtain ⟨r3, hr3, hF⟩ := ob_some hF
      refine en_si (r := []) (by decide +kernel : u_at kl_189 18 = some (.invokestatic 201, [188, 1])) rfl rfl (Nat.le_of_ble_eq_true rfl) (e_188 (D := D) (by omega) hW hr3) (fun h' q => ?_)
      subst q
      refine en_segs [(21, .iload_n 1, [])] (by decide +kernel) (y := (22, [some (.ref a0), some (.int x1)], [.int x1, .int r3], h)) rfl ?_
      refine en_ic_lt (by decide +kernel : u_at kl_189 22 = some (.if_icmp .lt 54, [76])) (fun b4 => ?_) (fun b4 => ?_)
      · replace hF := i_pos b4 hF
        obtain rfl := Option.some.inj hF
        exact en_ret (by decide +kernel : u_at kl_189 76 = some (.return_, [])) rfl (hQ _ hW)
      · replace hF := i_neg b4 hF
        refine en_segs [(25, .aload_n 0, []), (26, .dup, [])] (by decide +kernel) (y := (27, [some (.ref a0), some (.int x1)], [.ref a0, .ref a0], h)) rfl ?_
        refine en_get (by decide +kernel : u_at kl_189 27 = some (.getfield 198, [12, 16])) hW ha0 (by decide) rfl ?_
        refine en_segs [(30, .iconst 1, []), (31, .isub, [])] (by decide +kernel) (y := (32, [some (.ref a0), some (.int x1)], [.int ((cI c12 16 a0) - 1), .ref a0], h)) rfl ?_
        obtain ⟨c12_5, hc12_5, hF⟩ := ob_some hF
        refine en_putI (by decide +kernel : u_at kl_189 32 = some (.putfield 198, [12, 16, 0])) hW ha0 rfl (by decide) rfl (fun h hW => ?_)
        have hW : HW (mkw c0 c1 c2 c3 c4 c5 c6 c7 c8 c9 c10 c11 c12_5 c13) d h := by rw [← Option.some.inj hc12_5]; exact hW
        refine en_segs [(35, .aload_n 0, []), (36, .aload_n 0, [])] (by decide +kernel) (y := (37, [some (.ref a0), some (.int x1)], [.ref a0, .ref a0], h)) rfl ?_
        refine en_get (by decide +kernel : u_at kl_189 37 = some (.getfield 29, [12, 15])) hW ha0 (by decide) rfl ?_
        refine en_segs [(40, .aload_n 0, [])] (by decide +kernel) (y := (41, [some (.ref a0), some (.int x1)], [.ref a0, .ref (aP d 12 15 a0), .ref a0], h)) rfl ?_
        refine en_get (by decide +kernel : u_at kl_189 41 = some (.getfield 198, [12, 16])) hW ha0 (by decide) rfl ?_
        obtain ⟨v6, hv6, hF⟩ := ob_some hF
        refine en_iald (by decide +kernel : u_at kl_189 44 = some (.iaload, [])) hW ha0 rfl (by decide) hv6 ?_
        refine en_segs [(45, .iconst 0, [])] (by decide +kernel) (y := (46, [some (.ref a0), some (.int x1)], [.int 0, .int v6, .ref a0], h)) rfl ?_
        obtain ⟨r7, hr7, hF⟩ := ob_some hF
        refine en_vv (r := []) (by decide +kernel : u_at kl_189 46 = some (.invokevirtual 205, [185, 2, 12])) hW ha0 rfl rfl (Nat.le_of_ble_eq_true rfl) (e_185 (D := D) (by omega) hW ha0 hr7) (fun h hW => ?_)
        have hW : HW (mkw c0 c1 c2 c3 c4 c5 c6 c7 c8 c9 c10 c11 r7 c13) d h := hW
        refine en_segs [(49, .aload_n 0, [])] (by decide +kernel) (y := (50, [some (.ref a0), some (.int x1)], [.ref a0], h)) rfl ?_
        refine en_get (by decide +kernel : u_at kl_189 50 = some (.getfield 29, [12, 15])) hW ha0 (by decide) rfl ?_
        refine en_segs [(53, .aload_n 0, [])] (by decide +kernel) (y := (54, [some (.ref a0), some (.int x1)], [.ref a0, .ref (aP d 12 15 a0)], h)) rfl ?_
        refine en_get (by decide +kernel : u_at kl_189 54 = some (.getfield 198, [12, 16])) hW ha0 (by decide) rfl ?_
        obtain ⟨v8, hv8, hF⟩ := ob_some hF
        refine en_iald (by decide +kernel : u_at kl_189 57 = some (.iaload, [])) hW ha0 rfl (by decide) hv8 ?_
        refine en_segs [(58, .bipush 11, [])] (by decide +kernel) (y := (60, [some (.ref a0), some (.int x1)], [.int 11, .int v8], h)) rfl ?_
        refine en_ic_ne (by decide +kernel : u_at kl_189 60 = some (.if_icmp .ne (-60), [0])) (fun b9 => ?_) (fun b9 => ?_)
        · replace hF := i_pos b9 hF
          refine en_segs [(63, .aload_n 0, []), (64, .dup, [])] (by decide +kernel) (y := (65, [some (.ref a0), some (.int x1)], [.ref a0, .ref a0], h)) rfl ?_
          refine en_get (by decide +kernel : u_at kl_189 65 = some (.getfield 195, [12, 13])) hW ha0 (by decide) rfl ?_
          refine en_segs [(68, .iconst 1, []), (69, .isub, [])] (by decide +kernel) (y := (70, [some (.ref a0), some (.int x1)], [.int ((cI r7 13 a0) - 1), .ref a0], h)) rfl ?_
          obtain ⟨c12_10, hc12_10, hF⟩ := ob_some hF
          refine en_putI (by decide +kernel : u_at kl_189 70 = some (.putfield 195, [12, 13, 0])) hW ha0 rfl (by decide) rfl (fun h hW => ?_)
          have hW : HW (mkw c0 c1 c2 c3 c4 c5 c6 c7 c8 c9 c10 c11 c12_10 c13) d h := by rw [← Option.some.inj hc12_10]; exact hW
          refine en_segs [(73, .goto (-73), [0])] (by decide +kernel) (y := (0, [some (.ref a0), some (.int x1)], [], h)) rfl ?_
          exact (ih _ _ _ _ _ _ hF) _ rfl rfl rfl rfl  _ hW _ hQ
        · replace hF := i_neg b9 hF
          exact (ih _ _ _ _ _ _ hF) _ rfl rfl rfl rfl  _ hW _ hQ
def F_189 (c12 : Cl) (a0 : Nat) (p1 : Int32) : Option Cl :=
  G_189 a0 0 [p1] [] [] c12
set_option maxRecDepth 100000 in
set_option maxHeartbeats 4000000 in
/-- HeadCountsModel.settles -/
theorem e_189 {D : Nat} {c0 c1 c2 c3 c4 c5 c6 c7 c8 c9 c10 c11 c12 c13 : Cl} {d : Ad} {h : UH} {a0 : Nat} {p1 : Int32} {r : Cl} (hD : 2 ≤ D) (hW : HW (mkw c0 c1 c2 c3 c4 c5 c6 c7 c8 c9 c10 c11 c12 c13) d h) (ha0 : aK d a0 = (0, 12, 0)) (hF : F_189 c12 a0 p1 = some r) : ∃ q, EX D 189 [.ref a0, .int p1] h q ∧ q.1 = none ∧ HW (mkw c0 c1 c2 c3 c4 c5 c6 c7 c8 c9 c10 c11 r c13) d q.2 := by
  obtain ⟨D, rfl⟩ : ∃ E, D = E + 1 := ⟨D - 1, by omega⟩
  unfold F_189 at hF
  refine ex_in (kl := kl_189) (nL := 2) rfl (by decide +kernel) (Nat.le_of_ble_eq_true rfl) ?_
  obtain ⟨QQ, hQQ⟩ : ∃ QQ : UR → Prop, QQ = (fun q : UR => q.1 = none ∧ HW (mkw c0 c1 c2 c3 c4 c5 c6 c7 c8 c9 c10 c11 r c13) d q.2) := ⟨_, rfl⟩
  rw [← hQQ]
  have hQ : ∀ h' : UH, HW (mkw c0 c1 c2 c3 c4 c5 c6 c7 c8 c9 c10 c11 r c13) d h' → QQ (none, h') := fun h' p => by rw [hQQ]; exact ⟨rfl, p⟩
  clear hQQ
  show Ends (EX D) (u_at kl_189) (0, [some (.ref a0), some (.int p1)], [], h) QQ
  exact (g_189 (D := D) hD ha0 _ _ _ _ _ _ hF) _ rfl rfl rfl rfl  _ hW _ hQ
def F_190 (c12 : Cl) (a0 : Nat) : Option (Int32 × Cl) :=
  F_177 c12 a0 >>= fun r1 =>
  F_178 r1.2 a0 (cI r1.2 8 a0) >>= fun r2 =>
  if r2 = 0 then
  F_184 r1.2 a0 >>= fun r4 =>
  if 0 ≤ r4.1 then
  F_186 r4.2 a0 (cI r1.2 8 a0) >>= fun r6 =>
  if r6.1 = 0 then
  some (0, r6.2)
  else
  F_181 r6.2 a0 >>= fun r8 =>
  F_185 r8 a0 1 r4.1 >>= fun r9 =>
  some (1, r9)
  else
  F_176 r4.2 a0 0 (cI r1.2 8 a0) >>= fun r10 =>
  zb r10.1 >>= fun z11 => some (z11, r10.2)
  else
  F_183 r1.2 a0 0 99999 >>= fun r12 =>
  if r12.1 = 0 then
  some (0, r12.2)
  else
  F_186 r12.2 a0 (cI r1.2 8 a0) >>= fun r14 =>
  if r14.1 = 0 then
  some (0, r14.2)
  else
  F_185 r14.2 a0 0 (cI r14.2 10 a0) >>= fun r16 =>
  some (1, r16)
set_option maxRecDepth 100000 in
set_option maxHeartbeats 4000000 in
/-- HeadCountsModel.value -/
theorem e_190 {D : Nat} {c0 c1 c2 c3 c4 c5 c6 c7 c8 c9 c10 c11 c12 c13 : Cl} {d : Ad} {h : UH} {a0 : Nat} {r : (Int32 × Cl)} (hD : 4 ≤ D) (hW : HW (mkw c0 c1 c2 c3 c4 c5 c6 c7 c8 c9 c10 c11 c12 c13) d h) (ha0 : aK d a0 = (0, 12, 0)) (hF : F_190 c12 a0 = some r) : ∃ q, EX D 190 [.ref a0] h q ∧ q.1 = some (.int r.1) ∧ HW (mkw c0 c1 c2 c3 c4 c5 c6 c7 c8 c9 c10 c11 r.2 c13) d q.2 := by
  obtain ⟨D, rfl⟩ : ∃ E, D = E + 1 := ⟨D - 1, by omega⟩
  unfold F_190 at hF
  refine ex_in (kl := kl_190) (nL := 3) rfl (by decide +kernel) (Nat.le_of_ble_eq_true rfl) ?_
  obtain ⟨QQ, hQQ⟩ : ∃ QQ : UR → Prop, QQ = (fun q : UR => q.1 = some (.int r.1) ∧ HW (mkw c0 c1 c2 c3 c4 c5 c6 c7 c8 c9 c10 c11 r.2 c13) d q.2) := ⟨_, rfl⟩
  rw [← hQQ]
  have hQ : ∀ h' : UH, HW (mkw c0 c1 c2 c3 c4 c5 c6 c7 c8 c9 c10 c11 r.2 c13) d h' → QQ (some (.int r.1), h') := fun h' p => by rw [hQQ]; exact ⟨rfl, p⟩
  clear hQQ
  show Ends (EX D) (u_at kl_190) (0, [some (.ref a0), none, none], [], h) QQ
  refine en_segs [(0, .aload_n 0, [])] (by decide +kernel) (y := (1, [some (.ref a0), none, none], [.ref a0], h)) rfl ?_
  obtain ⟨r1, hr1, hF⟩ := ob_some hF
  refine en_vi (r := []) (by decide +kernel : u_at kl_190 1 = some (.invokevirtual 136, [177, 0, 12])) hW ha0 rfl rfl (Nat.le_of_ble_eq_true rfl) (e_177 (D := D) (by omega) hW ha0 hr1) (fun h hW => ?_)
  have hW : HW (mkw c0 c1 c2 c3 c4 c5 c6 c7 c8 c9 c10 c11 r1.2 c13) d h := hW
  refine en_segs [(4, .pop, []), (5, .aload_n 0, [])] (by decide +kernel) (y := (6, [some (.ref a0), none, none], [.ref a0], h)) rfl ?_
  refine en_get (by decide +kernel : u_at kl_190 6 = some (.getfield 133, [12, 8])) hW ha0 (by decide) rfl ?_
  refine en_segs [(9, .istore_n 1, []), (10, .aload_n 0, []), (11, .aload_n 0, [])] (by decide +kernel) (y := (12, [some (.ref a0), some (.int (cI r1.2 8 a0)), none], [.ref a0, .ref a0], h)) rfl ?_
  refine en_get (by decide +kernel : u_at kl_190 12 = some (.getfield 133, [12, 8])) hW ha0 (by decide) rfl ?_
  obtain ⟨r2, hr2, hF⟩ := ob_some hF
  refine en_vi (r := []) (by decide +kernel : u_at kl_190 15 = some (.invokevirtual 151, [178, 1, 12])) hW ha0 rfl rfl (Nat.le_of_ble_eq_true rfl) (e_178 (D := D) (by omega) hW ha0 hr2) (fun h' q => ?_)
  subst q
  refine en_if_eq (by decide +kernel : u_at kl_190 18 = some (.ifCond .eq 34, [52])) (fun b3 => ?_) (fun b3 => ?_)
  · replace hF := i_pos b3 hF
    refine en_segs [(52, .aload_n 0, [])] (by decide +kernel) (y := (53, [some (.ref a0), some (.int (cI r1.2 8 a0)), none], [.ref a0], h)) rfl ?_
    obtain ⟨r4, hr4, hF⟩ := ob_some hF
    refine en_vi (r := []) (by decide +kernel : u_at kl_190 53 = some (.invokevirtual 216, [184, 0, 12])) hW ha0 rfl rfl (Nat.le_of_ble_eq_true rfl) (e_184 (D := D) (by omega) hW ha0 hr4) (fun h hW => ?_)
    have hW : HW (mkw c0 c1 c2 c3 c4 c5 c6 c7 c8 c9 c10 c11 r4.2 c13) d h := hW
    refine en_segs [(56, .istore_n 2, []), (57, .iload_n 2, [])] (by decide +kernel) (y := (58, [some (.ref a0), some (.int (cI r1.2 8 a0)), some (.int r4.1)], [.int r4.1], h)) rfl ?_
    refine en_if_ge (by decide +kernel : u_at kl_190 58 = some (.ifCond .ge 10, [68])) (fun b5 => ?_) (fun b5 => ?_)
    · replace hF := i_pos b5 hF
      refine en_segs [(68, .aload_n 0, []), (69, .iload_n 1, [])] (by decide +kernel) (y := (70, [some (.ref a0), some (.int (cI r1.2 8 a0)), some (.int r4.1)], [.int (cI r1.2 8 a0), .ref a0], h)) rfl ?_
      obtain ⟨r6, hr6, hF⟩ := ob_some hF
      refine en_vi (r := []) (by decide +kernel : u_at kl_190 70 = some (.invokevirtual 213, [186, 1, 12])) hW ha0 rfl rfl (Nat.le_of_ble_eq_true rfl) (e_186 (D := D) (by omega) hW ha0 hr6) (fun h hW => ?_)
      have hW : HW (mkw c0 c1 c2 c3 c4 c5 c6 c7 c8 c9 c10 c11 r6.2 c13) d h := hW
      refine en_if_ne (by decide +kernel : u_at kl_190 73 = some (.ifCond .ne 5, [78])) (fun b7 => ?_) (fun b7 => ?_)
      · replace hF := i_pos b7 hF
        refine en_segs [(76, .iconst 0, [])] (by decide +kernel) (y := (77, [some (.ref a0), some (.int (cI r1.2 8 a0)), some (.int r4.1)], [.int 0], h)) rfl ?_
        obtain rfl := Option.some.inj hF
        exact en_ret (by decide +kernel : u_at kl_190 77 = some (.ireturn, [1])) rfl (hQ _ hW)
      · replace hF := i_neg b7 hF
        refine en_segs [(78, .aload_n 0, [])] (by decide +kernel) (y := (79, [some (.ref a0), some (.int (cI r1.2 8 a0)), some (.int r4.1)], [.ref a0], h)) rfl ?_
        obtain ⟨r8, hr8, hF⟩ := ob_some hF
        refine en_vv (r := []) (by decide +kernel : u_at kl_190 79 = some (.invokevirtual 148, [181, 0, 12])) hW ha0 rfl rfl (Nat.le_of_ble_eq_true rfl) (e_181 (D := D) (by omega) hW ha0 hr8) (fun h hW => ?_)
        have hW : HW (mkw c0 c1 c2 c3 c4 c5 c6 c7 c8 c9 c10 c11 r8 c13) d h := hW
        refine en_segs [(82, .aload_n 0, []), (83, .iconst 1, []), (84, .iload_n 2, [])] (by decide +kernel) (y := (85, [some (.ref a0), some (.int (cI r1.2 8 a0)), some (.int r4.1)], [.int r4.1, .int 1, .ref a0], h)) rfl ?_
        obtain ⟨r9, hr9, hF⟩ := ob_some hF
        refine en_vv (r := []) (by decide +kernel : u_at kl_190 85 = some (.invokevirtual 205, [185, 2, 12])) hW ha0 rfl rfl (Nat.le_of_ble_eq_true rfl) (e_185 (D := D) (by omega) hW ha0 hr9) (fun h hW => ?_)
        have hW : HW (mkw c0 c1 c2 c3 c4 c5 c6 c7 c8 c9 c10 c11 r9 c13) d h := hW
        refine en_segs [(88, .iconst 1, [])] (by decide +kernel) (y := (89, [some (.ref a0), some (.int (cI r1.2 8 a0)), some (.int r4.1)], [.int 1], h)) rfl ?_
        obtain rfl := Option.some.inj hF
        exact en_ret (by decide +kernel : u_at kl_190 89 = some (.ireturn, [1])) rfl (hQ _ hW)
    · replace hF := i_neg b5 hF
      refine en_segs [(61, .aload_n 0, []), (62, .iconst 0, []), (63, .iload_n 1, [])] (by decide +kernel) (y := (64, [some (.ref a0), some (.int (cI r1.2 8 a0)), some (.int r4.1)], [.int (cI r1.2 8 a0), .int 0, .ref a0], h)) rfl ?_
      obtain ⟨r10, hr10, hF⟩ := ob_some hF
      refine en_vi (r := []) (by decide +kernel : u_at kl_190 64 = some (.invokevirtual 154, [176, 2, 12])) hW ha0 rfl rfl (Nat.le_of_ble_eq_true rfl) (e_176 (D := D) (by omega) hW ha0 hr10) (fun h hW => ?_)
      have hW : HW (mkw c0 c1 c2 c3 c4 c5 c6 c7 c8 c9 c10 c11 r10.2 c13) d h := hW
      obtain ⟨z11, hz11, hF⟩ := ob_some hF
      obtain rfl := Option.some.inj hF
      exact en_retZ (by decide +kernel : u_at kl_190 67 = some (.ireturn, [1])) hz11 (hQ _ hW)
  · replace hF := i_neg b3 hF
    refine en_segs [(21, .aload_n 0, []), (22, .iconst 0, []), (23, .ldc 209, [99999])] (by decide +kernel) (y := (25, [some (.ref a0), some (.int (cI r1.2 8 a0)), none], [.int 99999, .int 0, .ref a0], h)) rfl ?_
    obtain ⟨r12, hr12, hF⟩ := ob_some hF
    refine en_vi (r := []) (by decide +kernel : u_at kl_190 25 = some (.invokevirtual 210, [183, 2, 12])) hW ha0 rfl rfl (Nat.le_of_ble_eq_true rfl) (e_183 (D := D) (by omega) hW ha0 hr12) (fun h hW => ?_)
    have hW : HW (mkw c0 c1 c2 c3 c4 c5 c6 c7 c8 c9 c10 c11 r12.2 c13) d h := hW
    refine en_if_eq (by decide +kernel : u_at kl_190 28 = some (.ifCond .eq 11, [39])) (fun b13 => ?_) (fun b13 => ?_)
    · replace hF := i_pos b13 hF
      refine en_segs [(39, .iconst 0, [])] (by decide +kernel) (y := (40, [some (.ref a0), some (.int (cI r1.2 8 a0)), none], [.int 0], h)) rfl ?_
      obtain rfl := Option.some.inj hF
      exact en_ret (by decide +kernel : u_at kl_190 40 = some (.ireturn, [1])) rfl (hQ _ hW)
    · replace hF := i_neg b13 hF
      refine en_segs [(31, .aload_n 0, []), (32, .iload_n 1, [])] (by decide +kernel) (y := (33, [some (.ref a0), some (.int (cI r1.2 8 a0)), none], [.int (cI r1.2 8 a0), .ref a0], h)) rfl ?_
      obtain ⟨r14, hr14, hF⟩ := ob_some hF
      refine en_vi (r := []) (by decide +kernel : u_at kl_190 33 = some (.invokevirtual 213, [186, 1, 12])) hW ha0 rfl rfl (Nat.le_of_ble_eq_true rfl) (e_186 (D := D) (by omega) hW ha0 hr14) (fun h hW => ?_)
      have hW : HW (mkw c0 c1 c2 c3 c4 c5 c6 c7 c8 c9 c10 c11 r14.2 c13) d h := hW
      refine en_if_ne (by decide +kernel : u_at kl_190 36 = some (.ifCond .ne 5, [41])) (fun b15 => ?_) (fun b15 => ?_)
      · replace hF := i_pos b15 hF
        refine en_segs [(39, .iconst 0, [])] (by decide +kernel) (y := (40, [some (.ref a0), some (.int (cI r1.2 8 a0)), none], [.int 0], h)) rfl ?_
        obtain rfl := Option.some.inj hF
        exact en_ret (by decide +kernel : u_at kl_190 40 = some (.ireturn, [1])) rfl (hQ _ hW)
      · replace hF := i_neg b15 hF
        refine en_segs [(41, .aload_n 0, []), (42, .iconst 0, []), (43, .aload_n 0, [])] (by decide +kernel) (y := (44, [some (.ref a0), some (.int (cI r1.2 8 a0)), none], [.ref a0, .int 0, .ref a0], h)) rfl ?_
        refine en_get (by decide +kernel : u_at kl_190 44 = some (.getfield 158, [12, 10])) hW ha0 (by decide) rfl ?_
        obtain ⟨r16, hr16, hF⟩ := ob_some hF
        refine en_vv (r := []) (by decide +kernel : u_at kl_190 47 = some (.invokevirtual 205, [185, 2, 12])) hW ha0 rfl rfl (Nat.le_of_ble_eq_true rfl) (e_185 (D := D) (by omega) hW ha0 hr16) (fun h hW => ?_)
        have hW : HW (mkw c0 c1 c2 c3 c4 c5 c6 c7 c8 c9 c10 c11 r16 c13) d h := hW
        refine en_segs [(50, .iconst 1, [])] (by decide +kernel) (y := (51, [some (.ref a0), some (.int (cI r1.2 8 a0)), none], [.int 1], h)) rfl ?_
        obtain rfl := Option.some.inj hF
        exact en_ret (by decide +kernel : u_at kl_190 51 = some (.ireturn, [1])) rfl (hQ _ hW)
def G_191 (a0 : Nat) (lab : Nat) (xs : List Int32) (ys : List Int64) (zs : List Nat) (c12 : Cl) : Option (Int32 × Cl) := match lab, xs, ys, zs with
  | 0, [], [], [] =>
    F_177 c12 a0 >>= fun r3 =>
    if r3.1 = 42 then
    G_191 a0 1 [] [] [] r3.2
    else
    F_177 r3.2 a0 >>= fun r5 =>
    if r5.1 = 47 then
    G_191 a0 1 [] [] [] r5.2
    else
    some (1, r5.2)
  | 1, [], [], [] =>
    ald (cA c12 0 a0) 400 (cI c12 8 a0) >>= fun v7 =>
    ((if v7 = 42 then
    some 4
    else
    some 5) : Option (Int32)) >>= fun (t8 : Int32) =>
    some (sI c12 8 a0 ((cI c12 8 a0) + 1)) >>= fun c12_10 =>
    F_190 c12_10 a0 >>= fun r11 =>
    if r11.1 = 0 then
    some (0, r11.2)
    else
    F_185 r11.2 a0 t8 0 >>= fun r13 =>
    G_191 a0 0 [] [] [] r13
  | _, _, _, _ => none
partial_fixpoint
set_option maxRecDepth 100000 in
set_option maxHeartbeats 4000000 in
theorem g_191 {D : Nat} (hD : 5 ≤ D + 1) {c0 c1 c2 c3 c4 c5 c6 c7 c8 c9 c10 c11 c13 : Cl} {d : Ad} {a0 : Nat} (ha0 : aK d a0 = (0, 12, 0)) : ∀ (lab : Nat) (xs : List Int32) (ys : List Int64) (zs : List Nat) (c12 : Cl) (r : (Int32 × Cl)), G_191 a0 lab xs ys zs c12 = some r →
    (∀ (_ : Unit), lab = 0 → xs = [] → ys = [] → zs = [] → ∀ h : UH, HW (mkw c0 c1 c2 c3 c4 c5 c6 c7 c8 c9 c10 c11 c12 c13) d h → ∀ QQ : UR → Prop, (∀ h' : UH, HW (mkw c0 c1 c2 c3 c4 c5 c6 c7 c8 c9 c10 c11 r.2 c13) d h' → QQ (some (.int r.1), h')) → Ends (EX D) (u_at kl_191) (9, [some (.ref a0), none], [], h) QQ) ∧
    (∀ (_ : Unit), lab = 1 → xs = [] → ys = [] → zs = [] → ∀ h : UH, HW (mkw c0 c1 c2 c3 c4 c5 c6 c7 c8 c9 c10 c11 c12 c13) d h → ∀ QQ : UR → Prop, (∀ h' : UH, HW (mkw c0 c1 c2 c3 c4 c5 c6 c7 c8 c9 c10 c11 r.2 c13) d h' → QQ (some (.int r.1), h')) → Ends (EX D) (u_at kl_191) (27, [some (.ref a0), none], [], h) QQ) := by
  refine G_191.partial_correctness _ (motive := fun lab xs ys zs c12 r =>
    (∀ (_ : Unit), lab = 0 → xs = [] → ys = [] → zs = [] → ∀ h : UH, HW (mkw c0 c1 c2 c3 c4 c5 c6 c7 c8 c9 c10 c11 c12 c13) d h → ∀ QQ : UR → Prop, (∀ h' : UH, HW (mkw c0 c1 c2 c3 c4 c5 c6 c7 c8 c9 c10 c11 r.2 c13) d h' → QQ (some (.int r.1), h')) → Ends (EX D) (u_at kl_191) (9, [some (.ref a0), none], [], h) QQ) ∧
    (∀ (_ : Unit), lab = 1 → xs = [] → ys = [] → zs = [] → ∀ h : UH, HW (mkw c0 c1 c2 c3 c4 c5 c6 c7 c8 c9 c10 c11 c12 c13) d h → ∀ QQ : UR → Prop, (∀ h' : UH, HW (mkw c0 c1 c2 c3 c4 c5 c6 c7 c8 c9 c10 c11 r.2 c13) d h' → QQ (some (.int r.1), h')) → Ends (EX D) (u_at kl_191) (27, [some (.ref a0), none], [], h) QQ)) ?_
  intro G ih lab xs ys zs c12 r hF
  refine ⟨?_, ?_⟩
  · intro _ e1 e2 e3 e4 h hW QQ hQ
    subst e1 e2 e3 e4
    refine en_segs [(9, .aload_n 0, [])] (by decide +kernel) (y := (10, [some (.ref a0), none], [.ref a0], h)) rfl ?_
    obtain ⟨r3, hr3, hF⟩ := ob_some hF
    refine en_vi (r := []) (by decide +kernel : u_at kl_191 10 = some (.invokevirtual 136, [177, 0, 12])) hW ha0 rfl rfl (Nat.le_of_ble_eq_true rfl) (e_177 (D := D) (by omega) hW ha0 hr3) (fun h hW => ?_)
    have hW : HW (mkw c0 c1 c2 c3 c4 c5 c6 c7 c8 c9 c10 c11 r3.2 c13) d h := hW
    refine en_segs [(13, .bipush 42, [])] (by decide +kernel) (y := (15, [some (.ref a0), none], [.int 42, .int r3.1], h)) rfl ?_
    refine en_ic_eq (by decide +kernel : u_at kl_191 15 = some (.if_icmp .eq 12, [27])) (fun b4 => ?_) (fun b4 => ?_)
    · replace hF := i_pos b4 hF
      exact (ih _ _ _ _ _ _ hF).2 () rfl rfl rfl rfl  _ hW _ hQ
    · replace hF := i_neg b4 hF
      refine en_segs [(18, .aload_n 0, [])] (by decide +kernel) (y := (19, [some (.ref a0), none], [.ref a0], h)) rfl ?_
      obtain ⟨r5, hr5, hF⟩ := ob_some hF
      refine en_vi (r := []) (by decide +kernel : u_at kl_191 19 = some (.invokevirtual 136, [177, 0, 12])) hW ha0 rfl rfl (Nat.le_of_ble_eq_true rfl) (e_177 (D := D) (by omega) hW ha0 hr5) (fun h hW => ?_)
      have hW : HW (mkw c0 c1 c2 c3 c4 c5 c6 c7 c8 c9 c10 c11 r5.2 c13) d h := hW
      refine en_segs [(22, .bipush 47, [])] (by decide +kernel) (y := (24, [some (.ref a0), none], [.int 47, .int r5.1], h)) rfl ?_
      refine en_ic_ne (by decide +kernel : u_at kl_191 24 = some (.if_icmp .ne 51, [75])) (fun b6 => ?_) (fun b6 => ?_)
      · replace hF := i_pos b6 hF
        exact (ih _ _ _ _ _ _ hF).2 () rfl rfl rfl rfl  _ hW _ hQ
      · replace hF := i_neg b6 hF
        refine en_segs [(75, .iconst 1, [])] (by decide +kernel) (y := (76, [some (.ref a0), none], [.int 1], h)) rfl ?_
        obtain rfl := Option.some.inj hF
        exact en_ret (by decide +kernel : u_at kl_191 76 = some (.ireturn, [1])) rfl (hQ _ hW)
  · intro _ e1 e2 e3 e4 h hW QQ hQ
    subst e1 e2 e3 e4
    refine en_segs [(27, .aload_n 0, [])] (by decide +kernel) (y := (28, [some (.ref a0), none], [.ref a0], h)) rfl ?_
    refine en_get (by decide +kernel : u_at kl_191 28 = some (.getfield 7, [12, 0])) hW ha0 (by decide) rfl ?_
    refine en_segs [(31, .aload_n 0, [])] (by decide +kernel) (y := (32, [some (.ref a0), none], [.ref a0, .ref (aP d 12 0 a0)], h)) rfl ?_
    refine en_get (by decide +kernel : u_at kl_191 32 = some (.getfield 133, [12, 8])) hW ha0 (by decide) rfl ?_
    obtain ⟨v7, hv7, hF⟩ := ob_some hF
    refine en_bald (by decide +kernel : u_at kl_191 35 = some (.baload, [])) hW ha0 rfl (by decide) hv7 ?_
    refine en_segs [(36, .bipush 42, [])] (by decide +kernel) (y := (38, [some (.ref a0), none], [.int 42, .int v7], h)) rfl ?_
    obtain ⟨t8, hX, hK⟩ := ob_some hF
    have j9 : ∀ h : UH, HW (mkw c0 c1 c2 c3 c4 c5 c6 c7 c8 c9 c10 c11 c12 c13) d h → Ends (EX D) (u_at kl_191) (46, [some (.ref a0), none], [.int t8], h) QQ := by
      intro h hW
      have hF := hK
      refine en_segs [(46, .istore_n 1, []), (47, .aload_n 0, []), (48, .dup, [])] (by decide +kernel) (y := (49, [some (.ref a0), some (.int t8)], [.ref a0, .ref a0], h)) rfl ?_
      refine en_get (by decide +kernel : u_at kl_191 49 = some (.getfield 133, [12, 8])) hW ha0 (by decide) rfl ?_
      refine en_segs [(52, .iconst 1, []), (53, .iadd, [])] (by decide +kernel) (y := (54, [some (.ref a0), some (.int t8)], [.int ((cI c12 8 a0) + 1), .ref a0], h)) rfl ?_
      obtain ⟨c12_10, hc12_10, hF⟩ := ob_some hF
      refine en_putI (by decide +kernel : u_at kl_191 54 = some (.putfield 133, [12, 8, 0])) hW ha0 rfl (by decide) rfl (fun h hW => ?_)
      have hW : HW (mkw c0 c1 c2 c3 c4 c5 c6 c7 c8 c9 c10 c11 c12_10 c13) d h := by rw [← Option.some.inj hc12_10]; exact hW
      refine en_segs [(57, .aload_n 0, [])] (by decide +kernel) (y := (58, [some (.ref a0), some (.int t8)], [.ref a0], h)) rfl ?_
      obtain ⟨r11, hr11, hF⟩ := ob_some hF
      refine en_vi (r := []) (by decide +kernel : u_at kl_191 58 = some (.invokevirtual 219, [190, 0, 12])) hW ha0 rfl rfl (Nat.le_of_ble_eq_true rfl) (e_190 (D := D) (by omega) hW ha0 hr11) (fun h hW => ?_)
      have hW : HW (mkw c0 c1 c2 c3 c4 c5 c6 c7 c8 c9 c10 c11 r11.2 c13) d h := hW
      refine en_if_ne (by decide +kernel : u_at kl_191 61 = some (.ifCond .ne 5, [66])) (fun b12 => ?_) (fun b12 => ?_)
      · replace hF := i_pos b12 hF
        refine en_segs [(64, .iconst 0, [])] (by decide +kernel) (y := (65, [some (.ref a0), some (.int t8)], [.int 0], h)) rfl ?_
        obtain rfl := Option.some.inj hF
        exact en_ret (by decide +kernel : u_at kl_191 65 = some (.ireturn, [1])) rfl (hQ _ hW)
      · replace hF := i_neg b12 hF
        refine en_segs [(66, .aload_n 0, []), (67, .iload_n 1, []), (68, .iconst 0, [])] (by decide +kernel) (y := (69, [some (.ref a0), some (.int t8)], [.int 0, .int t8, .ref a0], h)) rfl ?_
        obtain ⟨r13, hr13, hF⟩ := ob_some hF
        refine en_vv (r := []) (by decide +kernel : u_at kl_191 69 = some (.invokevirtual 205, [185, 2, 12])) hW ha0 rfl rfl (Nat.le_of_ble_eq_true rfl) (e_185 (D := D) (by omega) hW ha0 hr13) (fun h hW => ?_)
        have hW : HW (mkw c0 c1 c2 c3 c4 c5 c6 c7 c8 c9 c10 c11 r13 c13) d h := hW
        refine en_segs [(72, .goto (-63), [9])] (by decide +kernel) (y := (9, [some (.ref a0), some (.int t8)], [], h)) rfl ?_
        refine en_fg (fg_k (fg_d fg_0)) ?_
        exact (ih _ _ _ _ _ _ hF).1 () rfl rfl rfl rfl  _ hW _ hQ
    have hF := hX
    refine en_ic_ne (by decide +kernel : u_at kl_191 38 = some (.if_icmp .ne 7, [45])) (fun b14 => ?_) (fun b14 => ?_)
    · replace hF := i_pos b14 hF
      refine en_segs [(41, .iconst 4, []), (42, .goto 4, [46])] (by decide +kernel) (y := (46, [some (.ref a0), none], [.int 4], h)) rfl ?_
      obtain rfl := Option.some.inj hF
      exact j9 _ hW
    · replace hF := i_neg b14 hF
      refine en_segs [(45, .iconst 5, [])] (by decide +kernel) (y := (46, [some (.ref a0), none], [.int 5], h)) rfl ?_
      obtain rfl := Option.some.inj hF
      exact j9 _ hW
def F_191 (c12 : Cl) (a0 : Nat) : Option (Int32 × Cl) :=
  F_190 c12 a0 >>= fun r1 =>
  if r1.1 = 0 then
  some (0, r1.2)
  else
  G_191 a0 0 [] [] [] r1.2
set_option maxRecDepth 100000 in
set_option maxHeartbeats 4000000 in
/-- HeadCountsModel.term -/
theorem e_191 {D : Nat} {c0 c1 c2 c3 c4 c5 c6 c7 c8 c9 c10 c11 c12 c13 : Cl} {d : Ad} {h : UH} {a0 : Nat} {r : (Int32 × Cl)} (hD : 5 ≤ D) (hW : HW (mkw c0 c1 c2 c3 c4 c5 c6 c7 c8 c9 c10 c11 c12 c13) d h) (ha0 : aK d a0 = (0, 12, 0)) (hF : F_191 c12 a0 = some r) : ∃ q, EX D 191 [.ref a0] h q ∧ q.1 = some (.int r.1) ∧ HW (mkw c0 c1 c2 c3 c4 c5 c6 c7 c8 c9 c10 c11 r.2 c13) d q.2 := by
  obtain ⟨D, rfl⟩ : ∃ E, D = E + 1 := ⟨D - 1, by omega⟩
  unfold F_191 at hF
  refine ex_in (kl := kl_191) (nL := 2) rfl (by decide +kernel) (Nat.le_of_ble_eq_true rfl) ?_
  obtain ⟨QQ, hQQ⟩ : ∃ QQ : UR → Prop, QQ = (fun q : UR => q.1 = some (.int r.1) ∧ HW (mkw c0 c1 c2 c3 c4 c5 c6 c7 c8 c9 c10 c11 r.2 c13) d q.2) := ⟨_, rfl⟩
  rw [← hQQ]
  have hQ : ∀ h' : UH, HW (mkw c0 c1 c2 c3 c4 c5 c6 c7 c8 c9 c10 c11 r.2 c13) d h' → QQ (some (.int r.1), h') := fun h' p => by rw [hQQ]; exact ⟨rfl, p⟩
  clear hQQ
  show Ends (EX D) (u_at kl_191) (0, [some (.ref a0), none], [], h) QQ
  refine en_segs [(0, .aload_n 0, [])] (by decide +kernel) (y := (1, [some (.ref a0), none], [.ref a0], h)) rfl ?_
  obtain ⟨r1, hr1, hF⟩ := ob_some hF
  refine en_vi (r := []) (by decide +kernel : u_at kl_191 1 = some (.invokevirtual 219, [190, 0, 12])) hW ha0 rfl rfl (Nat.le_of_ble_eq_true rfl) (e_190 (D := D) (by omega) hW ha0 hr1) (fun h hW => ?_)
  have hW : HW (mkw c0 c1 c2 c3 c4 c5 c6 c7 c8 c9 c10 c11 r1.2 c13) d h := hW
  refine en_if_ne (by decide +kernel : u_at kl_191 4 = some (.ifCond .ne 5, [9])) (fun b2 => ?_) (fun b2 => ?_)
  · replace hF := i_pos b2 hF
    refine en_segs [(7, .iconst 0, [])] (by decide +kernel) (y := (8, [some (.ref a0), none], [.int 0], h)) rfl ?_
    obtain rfl := Option.some.inj hF
    exact en_ret (by decide +kernel : u_at kl_191 8 = some (.ireturn, [1])) rfl (hQ _ hW)
  · replace hF := i_neg b2 hF
    exact (g_191 (D := D) hD ha0 _ _ _ _ _ _ hF).1 () rfl rfl rfl rfl  _ hW _ hQ
