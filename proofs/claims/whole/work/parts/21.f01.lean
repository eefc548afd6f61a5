def F_32 (c3 : Cl) (a0 : Nat) (p1 : Int32) : Option (Int32 × Cl) :=
  if (cI c3 7 a0) = 0 then
  ald (cA c3 2 a0) 401 (cI c3 6 a0) >>= fun v2 =>
  if v2 = p1 then
  F_31 c3 a0 >>= fun r4 =>
  some (1, r4)
  else
  some (0, c3)
  else
  some (0, c3)
set_option maxRecDepth 100000 in
set_option maxHeartbeats 4000000 in
/-- HeadCounts$Reader.takes -/
theorem e_32 {D : Nat} {c0 c1 c2 c3 c4 c5 c6 c7 c8 c9 c10 c11 c12 c13 : Cl} {d : Ad} {h : UH} {a0 : Nat} {p1 : Int32} {r : (Int32 × Cl)} (hD : 2 ≤ D) (hW : HW (mkw c0 c1 c2 c3 c4 c5 c6 c7 c8 c9 c10 c11 c12 c13) d h) (ha0 : aK d a0 = (0, 3, 0)) (hF : F_32 c3 a0 p1 = some r) : ∃ q, EX D 32 [.ref a0, .int p1] h q ∧ q.1 = some (.int r.1) ∧ HW (mkw c0 c1 c2 r.2 c4 c5 c6 c7 c8 c9 c10 c11 c12 c13) d q.2 := by
  obtain ⟨D, rfl⟩ : ∃ E, D = E + 1 := ⟨D - 1, by omega⟩
  unfold F_32 at hF
  refine ex_in (kl := kl_32) (nL := 2) rfl (by decide +kernel) (Nat.le_of_ble_eq_true rfl) ?_
  obtain ⟨QQ, hQQ⟩ : ∃ QQ : UR → Prop, QQ = (fun q : UR => q.1 = some (.int r.1) ∧ HW (mkw c0 c1 c2 r.2 c4 c5 c6 c7 c8 c9 c10 c11 c12 c13) d q.2) := ⟨_, rfl⟩
  rw [← hQQ]
  have hQ : ∀ h' : UH, HW (mkw c0 c1 c2 r.2 c4 c5 c6 c7 c8 c9 c10 c11 c12 c13) d h' → QQ (some (.int r.1), h') := fun h' p => by rw [hQQ]; exact ⟨rfl, p⟩
  clear hQQ
  show Ends (EX D) (u_at kl_32) (0, [some (.ref a0), some (.int p1)], [], h) QQ
  refine en_segs [(0, .aload_n 0, [])] (by decide +kernel) (y := (1, [some (.ref a0), some (.int p1)], [.ref a0], h)) rfl ?_
  refine en_get (by decide +kernel : u_at kl_32 1 = some (.getfield 41, [3, 7])) hW ha0 (by decide) rfl ?_
  refine en_if_ne (by decide +kernel : u_at kl_32 4 = some (.ifCond .ne 16, [20])) (fun b1 => ?_) (fun b1 => ?_)
  · replace hF := i_pos b1 hF
    refine en_segs [(7, .aload_n 0, [])] (by decide +kernel) (y := (8, [some (.ref a0), some (.int p1)], [.ref a0], h)) rfl ?_
    refine en_get (by decide +kernel : u_at kl_32 8 = some (.getfield 9, [3, 2])) hW ha0 (by decide) rfl ?_
    refine en_segs [(11, .aload_n 0, [])] (by decide +kernel) (y := (12, [some (.ref a0), some (.int p1)], [.ref a0, .ref (aP d 3 2 a0)], h)) rfl ?_
    refine en_get (by decide +kernel : u_at kl_32 12 = some (.getfield 38, [3, 6])) hW ha0 (by decide) rfl ?_
    obtain ⟨v2, hv2, hF⟩ := ob_some hF
    refine en_iald (by decide +kernel : u_at kl_32 15 = some (.iaload, [])) hW ha0 rfl (by decide) hv2 ?_
    refine en_segs [(16, .iload_n 1, [])] (by decide +kernel) (y := (17, [some (.ref a0), some (.int p1)], [.int p1, .int v2], h)) rfl ?_
    refine en_ic_eq (by decide +kernel : u_at kl_32 17 = some (.if_icmp .eq 5, [22])) (fun b3 => ?_) (fun b3 => ?_)
    · replace hF := i_pos b3 hF
      refine en_segs [(22, .aload_n 0, [])] (by decide +kernel) (y := (23, [some (.ref a0), some (.int p1)], [.ref a0], h)) rfl ?_
      obtain ⟨r4, hr4, hF⟩ := ob_some hF
      refine en_vv (r := []) (by decide +kernel : u_at kl_32 23 = some (.invokevirtual 72, [31, 0, 3])) hW ha0 rfl rfl (Nat.le_of_ble_eq_true rfl) (e_31 (D := D) (by omega) hW ha0 hr4) (fun h hW => ?_)
      have hW : HW (mkw c0 c1 c2 r4 c4 c5 c6 c7 c8 c9 c10 c11 c12 c13) d h := hW
      refine en_segs [(26, .iconst 1, [])] (by decide +kernel) (y := (27, [some (.ref a0), some (.int p1)], [.int 1], h)) rfl ?_
      obtain rfl := Option.some.inj hF
      exact en_ret (by decide +kernel : u_at kl_32 27 = some (.ireturn, [1])) rfl (hQ _ hW)
    · replace hF := i_neg b3 hF
      refine en_segs [(20, .iconst 0, [])] (by decide +kernel) (y := (21, [some (.ref a0), some (.int p1)], [.int 0], h)) rfl ?_
      obtain rfl := Option.some.inj hF
      exact en_ret (by decide +kernel : u_at kl_32 21 = some (.ireturn, [1])) rfl (hQ _ hW)
  · replace hF := i_neg b1 hF
    refine en_segs [(20, .iconst 0, [])] (by decide +kernel) (y := (21, [some (.ref a0), some (.int p1)], [.int 0], h)) rfl ?_
    obtain rfl := Option.some.inj hF
    exact en_ret (by decide +kernel : u_at kl_32 21 = some (.ireturn, [1])) rfl (hQ _ hW)
def F_33 (c3 : Cl) (a0 : Nat) : Option (Int32 × Cl) :=
  ald (cA c3 2 a0) 401 (cI c3 6 a0) >>= fun v1 =>
  ((if v1 = 159 then
  some c3
  else
  ald (cA c3 2 a0) 401 (cI c3 6 a0) >>= fun v7 =>
  if v7 = 35 then
  some c3
  else
  F_28 c3 a0 0 >>= fun r9 =>
  some r9) : Option (Cl)) >>= fun (t2 : Cl) =>
  F_32 t2 a0 159 >>= fun r4 =>
  zb r4.1 >>= fun z5 => some (z5, r4.2)
set_option maxRecDepth 100000 in
set_option maxHeartbeats 4000000 in
/-- HeadCounts$Reader.takesSemicolon -/
theorem e_33 {D : Nat} {c0 c1 c2 c3 c4 c5 c6 c7 c8 c9 c10 c11 c12 c13 : Cl} {d : Ad} {h : UH} {a0 : Nat} {r : (Int32 × Cl)} (hD : 3 ≤ D) (hW : HW (mkw c0 c1 c2 c3 c4 c5 c6 c7 c8 c9 c10 c11 c12 c13) d h) (ha0 : aK d a0 = (0, 3, 0)) (hF : F_33 c3 a0 = some r) : ∃ q, EX D 33 [.ref a0] h q ∧ q.1 = some (.int r.1) ∧ HW (mkw c0 c1 c2 r.2 c4 c5 c6 c7 c8 c9 c10 c11 c12 c13) d q.2 := by
  obtain ⟨D, rfl⟩ : ∃ E, D = E + 1 := ⟨D - 1, by omega⟩
  unfold F_33 at hF
  refine ex_in (kl := kl_33) (nL := 1) rfl (by decide +kernel) (Nat.le_of_ble_eq_true rfl) ?_
  obtain ⟨QQ, hQQ⟩ : ∃ QQ : UR → Prop, QQ = (fun q : UR => q.1 = some (.int r.1) ∧ HW (mkw c0 c1 c2 r.2 c4 c5 c6 c7 c8 c9 c10 c11 c12 c13) d q.2) := ⟨_, rfl⟩
  rw [← hQQ]
  have hQ : ∀ h' : UH, HW (mkw c0 c1 c2 r.2 c4 c5 c6 c7 c8 c9 c10 c11 c12 c13) d h' → QQ (some (.int r.1), h') := fun h' p => by rw [hQQ]; exact ⟨rfl, p⟩
  clear hQQ
  show Ends (EX D) (u_at kl_33) (0, [some (.ref a0)], [], h) QQ
  refine en_segs [(0, .aload_n 0, [])] (by decide +kernel) (y := (1, [some (.ref a0)], [.ref a0], h)) rfl ?_
  refine en_get (by decide +kernel : u_at kl_33 1 = some (.getfield 9, [3, 2])) hW ha0 (by decide) rfl ?_
  refine en_segs [(4, .aload_n 0, [])] (by decide +kernel) (y := (5, [some (.ref a0)], [.ref a0, .ref (aP d 3 2 a0)], h)) rfl ?_
  refine en_get (by decide +kernel : u_at kl_33 5 = some (.getfield 38, [3, 6])) hW ha0 (by decide) rfl ?_
  obtain ⟨v1, hv1, hF⟩ := ob_some hF
  refine en_iald (by decide +kernel : u_at kl_33 8 = some (.iaload, [])) hW ha0 rfl (by decide) hv1 ?_
  refine en_segs [(9, .sipush 159, [])] (by decide +kernel) (y := (12, [some (.ref a0)], [.int 159, .int v1], h)) rfl ?_
  obtain ⟨t2, hX, hK⟩ := ob_some hF
  have j3 : ∀ h : UH, HW (mkw c0 c1 c2 t2 c4 c5 c6 c7 c8 c9 c10 c11 c12 c13) d h → Ends (EX D) (u_at kl_33) (34, [some (.ref a0)], [], h) QQ := by
    intro h hW
    have hF := hK
    refine en_segs [(34, .aload_n 0, []), (35, .sipush 159, [])] (by decide +kernel) (y := (38, [some (.ref a0)], [.int 159, .ref a0], h)) rfl ?_
    obtain ⟨r4, hr4, hF⟩ := ob_some hF
    refine en_vi (r := []) (by decide +kernel : u_at kl_33 38 = some (.invokevirtual 79, [32, 1, 3])) hW ha0 rfl rfl (Nat.le_of_ble_eq_true rfl) (e_32 (D := D) (by omega) hW ha0 hr4) (fun h hW => ?_)
    have hW : HW (mkw c0 c1 c2 r4.2 c4 c5 c6 c7 c8 c9 c10 c11 c12 c13) d h := hW
    obtain ⟨z5, hz5, hF⟩ := ob_some hF
    obtain rfl := Option.some.inj hF
    exact en_retZ (by decide +kernel : u_at kl_33 41 = some (.ireturn, [1])) hz5 (hQ _ hW)
  have hF := hX
  refine en_ic_eq (by decide +kernel : u_at kl_33 12 = some (.if_icmp .eq 22, [34])) (fun b6 => ?_) (fun b6 => ?_)
  · replace hF := i_pos b6 hF
    obtain rfl := Option.some.inj hF
    exact j3 _ hW
  · replace hF := i_neg b6 hF
    refine en_segs [(15, .aload_n 0, [])] (by decide +kernel) (y := (16, [some (.ref a0)], [.ref a0], h)) rfl ?_
    refine en_get (by decide +kernel : u_at kl_33 16 = some (.getfield 9, [3, 2])) hW ha0 (by decide) rfl ?_
    refine en_segs [(19, .aload_n 0, [])] (by decide +kernel) (y := (20, [some (.ref a0)], [.ref a0, .ref (aP d 3 2 a0)], h)) rfl ?_
    refine en_get (by decide +kernel : u_at kl_33 20 = some (.getfield 38, [3, 6])) hW ha0 (by decide) rfl ?_
    obtain ⟨v7, hv7, hF⟩ := ob_some hF
    refine en_iald (by decide +kernel : u_at kl_33 23 = some (.iaload, [])) hW ha0 rfl (by decide) hv7 ?_
    refine en_segs [(24, .bipush 35, [])] (by decide +kernel) (y := (26, [some (.ref a0)], [.int 35, .int v7], h)) rfl ?_
    refine en_ic_eq (by decide +kernel : u_at kl_33 26 = some (.if_icmp .eq 8, [34])) (fun b8 => ?_) (fun b8 => ?_)
    · replace hF := i_pos b8 hF
      obtain rfl := Option.some.inj hF
      exact j3 _ hW
    · replace hF := i_neg b8 hF
      refine en_segs [(29, .aload_n 0, []), (30, .iconst 0, [])] (by decide +kernel) (y := (31, [some (.ref a0)], [.int 0, .ref a0], h)) rfl ?_
      obtain ⟨r9, hr9, hF⟩ := ob_some hF
      refine en_vv (r := []) (by decide +kernel : u_at kl_33 31 = some (.invokevirtual 75, [28, 1, 3])) hW ha0 rfl rfl (Nat.le_of_ble_eq_true rfl) (e_28 (D := D) (by omega) hW ha0 hr9) (fun h hW => ?_)
      have hW : HW (mkw c0 c1 c2 r9 c4 c5 c6 c7 c8 c9 c10 c11 c12 c13) d h := hW
      obtain rfl := Option.some.inj hF
      exact j3 _ hW
def F_39 (p1 : Int32) (p2 : Int64) (p3 : Int64) : Option Int64 :=
  if p1 = 20 then
  some (p2 + p3)
  else
  if p1 = 21 then
  some (p2 - p3)
  else
  if p1 = 22 then
  some (p2 * p3)
  else
  if p1 = 23 then
  ((if (lg_cmp p3 0) = 0 then
  some 0
  else
  ldv p2 p3 >>= fun v8 =>
  some v8) : Option (Int64)) >>= fun (t5 : Int64) =>
  some t5
  else
  if p1 = 24 then
  ((if 0 ≤ (lg_cmp p2 p3) then
  some 0
  else
  some 1) : Option (Int64)) >>= fun (t10 : Int64) =>
  some t10
  else
  if p1 = 25 then
  ((if 0 < (lg_cmp p2 p3) then
  some 0
  else
  some 1) : Option (Int64)) >>= fun (t14 : Int64) =>
  some t14
  else
  if p1 = 26 then
  ((if (lg_cmp p2 p3) = 0 then
  some 1
  else
  some 0) : Option (Int64)) >>= fun (t18 : Int64) =>
  some t18
  else
  if p1 = 27 then
  ((if (lg_cmp p2 p3) < 0 then
  some 0
  else
  some 1) : Option (Int64)) >>= fun (t22 : Int64) =>
  some t22
  else
  if p1 = 28 then
  ((if (lg_cmp p2 p3) ≤ 0 then
  some 0
  else
  some 1) : Option (Int64)) >>= fun (t26 : Int64) =>
  some t26
  else
  if p1 = 29 then
  some (p2 &&& p3)
  else
  some (p2 ||| p3)
set_option maxRecDepth 100000 in
set_option maxHeartbeats 4000000 in
/-- HeadCounts$Rule.joined -/
theorem e_39 {D : Nat} {c0 c1 c2 c3 c4 c5 c6 c7 c8 c9 c10 c11 c12 c13 : Cl} {d : Ad} {h : UH} {p1 : Int32} {p2 : Int64} {p3 : Int64} {r : Int64} (hD : 1 ≤ D) (hW : HW (mkw c0 c1 c2 c3 c4 c5 c6 c7 c8 c9 c10 c11 c12 c13) d h) (hF : F_39 p1 p2 p3 = some r) : ∃ q, EX D 39 [.int p1, .long p2, .long p3] h q ∧ q.1 = some (.long r) ∧ h = q.2 := by
  obtain ⟨D, rfl⟩ : ∃ E, D = E + 1 := ⟨D - 1, by omega⟩
  unfold F_39 at hF
  refine ex_in (kl := kl_39) (nL := 5) rfl (by decide +kernel) (Nat.le_of_ble_eq_true rfl) ?_
  obtain ⟨QQ, hQQ⟩ : ∃ QQ : UR → Prop, QQ = (fun q : UR => q.1 = some (.long r) ∧ h = q.2) := ⟨_, rfl⟩
  rw [← hQQ]
  have hQ : QQ (some (.long r), h) := by rw [hQQ]; exact ⟨rfl, rfl⟩
  clear hQQ
  show Ends (EX D) (u_at kl_39) (0, [some (.int p1), some (.long p2), none, some (.long p3), none], [], h) QQ
  refine en_segs [(0, .iload_n 0, [])] (by decide +kernel) (y := (1, [some (.int p1), some (.long p2), none, some (.long p3), none], [.int p1], h)) rfl ?_
  by_cases b1 : p1 = 20
  · replace hF := i_pos b1 hF
    refine en_tsC (by decide +kernel : u_at kl_39 1 = some (.tableswitch 145 20 29 #[55, 59, 63, 67, 81, 93, 105, 117, 129, 141], [146, 56, 60, 64, 68, 82, 94, 106, 118, 130, 142])) (by rw [b1]; decide) (u := 56) (by rw [b1]; rfl) ?_
    refine en_segs [(56, .lload_n 1, []), (57, .lload_n 3, []), (58, .ladd, [])] (by decide +kernel) (y := (59, [some (.int p1), some (.long p2), none, some (.long p3), none], [.long (p2 + p3)], h)) rfl ?_
    obtain rfl := Option.some.inj hF
    exact en_ret (by decide +kernel : u_at kl_39 59 = some (.lreturn, [])) rfl (hQ)
  · replace hF := i_neg b1 hF
    by_cases b2 : p1 = 21
    · replace hF := i_pos b2 hF
      refine en_tsC (by decide +kernel : u_at kl_39 1 = some (.tableswitch 145 20 29 #[55, 59, 63, 67, 81, 93, 105, 117, 129, 141], [146, 56, 60, 64, 68, 82, 94, 106, 118, 130, 142])) (by rw [b2]; decide) (u := 60) (by rw [b2]; rfl) ?_
      refine en_segs [(60, .lload_n 1, []), (61, .lload_n 3, []), (62, .lsub, [])] (by decide +kernel) (y := (63, [some (.int p1), some (.long p2), none, some (.long p3), none], [.long (p2 - p3)], h)) rfl ?_
      obtain rfl := Option.some.inj hF
      exact en_ret (by decide +kernel : u_at kl_39 63 = some (.lreturn, [])) rfl (hQ)
    · replace hF := i_neg b2 hF
      by_cases b3 : p1 = 22
      · replace hF := i_pos b3 hF
        refine en_tsC (by decide +kernel : u_at kl_39 1 = some (.tableswitch 145 20 29 #[55, 59, 63, 67, 81, 93, 105, 117, 129, 141], [146, 56, 60, 64, 68, 82, 94, 106, 118, 130, 142])) (by rw [b3]; decide) (u := 64) (by rw [b3]; rfl) ?_
        refine en_segs [(64, .lload_n 1, []), (65, .lload_n 3, []), (66, .lmul, [])] (by decide +kernel) (y := (67, [some (.int p1), some (.long p2), none, some (.long p3), none], [.long (p2 * p3)], h)) rfl ?_
        obtain rfl := Option.some.inj hF
        exact en_ret (by decide +kernel : u_at kl_39 67 = some (.lreturn, [])) rfl (hQ)
      · replace hF := i_neg b3 hF
        by_cases b4 : p1 = 23
        · replace hF := i_pos b4 hF
          refine en_tsC (by decide +kernel : u_at kl_39 1 = some (.tableswitch 145 20 29 #[55, 59, 63, 67, 81, 93, 105, 117, 129, 141], [146, 56, 60, 64, 68, 82, 94, 106, 118, 130, 142])) (by rw [b4]; decide) (u := 68) (by rw [b4]; rfl) ?_
          refine en_segs [(68, .lload_n 3, []), (69, .lconst 0, []), (70, .lcmp, [])] (by decide +kernel) (y := (71, [some (.int p1), some (.long p2), none, some (.long p3), none], [.int (lg_cmp p3 0)], h)) rfl ?_
          obtain ⟨t5, hX, hK⟩ := ob_some hF
          have j6 : Ends (EX D) (u_at kl_39) (81, [some (.int p1), some (.long p2), none, some (.long p3), none], [.long t5], h) QQ := by
            have hF := hK
            obtain rfl := Option.some.inj hF
            exact en_ret (by decide +kernel : u_at kl_39 81 = some (.lreturn, [])) rfl (hQ)
          have hF := hX
          refine en_if_ne (by decide +kernel : u_at kl_39 71 = some (.ifCond .ne 7, [78])) (fun b7 => ?_) (fun b7 => ?_)
          · replace hF := i_pos b7 hF
            refine en_segs [(74, .lconst 0, []), (75, .goto 6, [81])] (by decide +kernel) (y := (81, [some (.int p1), some (.long p2), none, some (.long p3), none], [.long 0], h)) rfl ?_
            obtain rfl := Option.some.inj hF
            exact j6
          · replace hF := i_neg b7 hF
            refine en_segs [(78, .lload_n 1, []), (79, .lload_n 3, [])] (by decide +kernel) (y := (80, [some (.int p1), some (.long p2), none, some (.long p3), none], [.long p3, .long p2], h)) rfl ?_
            obtain ⟨v8, hv8, hF⟩ := ob_some hF
            refine en_ldiv (by decide +kernel : u_at kl_39 80 = some (.ldiv, [])) hv8 ?_
            obtain rfl := Option.some.inj hF
            exact j6
        · replace hF := i_neg b4 hF
          by_cases b9 : p1 = 24
          · replace hF := i_pos b9 hF
            refine en_tsC (by decide +kernel : u_at kl_39 1 = some (.tableswitch 145 20 29 #[55, 59, 63, 67, 81, 93, 105, 117, 129, 141], [146, 56, 60, 64, 68, 82, 94, 106, 118, 130, 142])) (by rw [b9]; decide) (u := 82) (by rw [b9]; rfl) ?_
            refine en_segs [(82, .lload_n 1, []), (83, .lload_n 3, []), (84, .lcmp, [])] (by decide +kernel) (y := (85, [some (.int p1), some (.long p2), none, some (.long p3), none], [.int (lg_cmp p2 p3)], h)) rfl ?_
            obtain ⟨t10, hX, hK⟩ := ob_some hF
            have j11 : Ends (EX D) (u_at kl_39) (93, [some (.int p1), some (.long p2), none, some (.long p3), none], [.long t10], h) QQ := by
              have hF := hK
              obtain rfl := Option.some.inj hF
              exact en_ret (by decide +kernel : u_at kl_39 93 = some (.lreturn, [])) rfl (hQ)
            have hF := hX
            refine en_if_ge (by decide +kernel : u_at kl_39 85 = some (.ifCond .ge 7, [92])) (fun b12 => ?_) (fun b12 => ?_)
            · replace hF := i_pos b12 hF
              refine en_segs [(92, .lconst 0, [])] (by decide +kernel) (y := (93, [some (.int p1), some (.long p2), none, some (.long p3), none], [.long 0], h)) rfl ?_
              obtain rfl := Option.some.inj hF
              exact j11
            · replace hF := i_neg b12 hF
              refine en_segs [(88, .lconst 1, []), (89, .goto 4, [93])] (by decide +kernel) (y := (93, [some (.int p1), some (.long p2), none, some (.long p3), none], [.long 1], h)) rfl ?_
              obtain rfl := Option.some.inj hF
              exact j11
          · replace hF := i_neg b9 hF
            by_cases b13 : p1 = 25
            · replace hF := i_pos b13 hF
              refine en_tsC (by decide +kernel : u_at kl_39 1 = some (.tableswitch 145 20 29 #[55, 59, 63, 67, 81, 93, 105, 117, 129, 141], [146, 56, 60, 64, 68, 82, 94, 106, 118, 130, 142])) (by rw [b13]; decide) (u := 94) (by rw [b13]; rfl) ?_
              refine en_segs [(94, .lload_n 1, []), (95, .lload_n 3, []), (96, .lcmp, [])] (by decide +kernel) (y := (97, [some (.int p1), some (.long p2), none, some (.long p3), none], [.int (lg_cmp p2 p3)], h)) rfl ?_
              obtain ⟨t14, hX, hK⟩ := ob_some hF
              have j15 : Ends (EX D) (u_at kl_39) (105, [some (.int p1), some (.long p2), none, some (.long p3), none], [.long t14], h) QQ := by
                have hF := hK
                obtain rfl := Option.some.inj hF
                exact en_ret (by decide +kernel : u_at kl_39 105 = some (.lreturn, [])) rfl (hQ)
              have hF := hX
              refine en_if_gt (by decide +kernel : u_at kl_39 97 = some (.ifCond .gt 7, [104])) (fun b16 => ?_) (fun b16 => ?_)
              · replace hF := i_pos b16 hF
                refine en_segs [(104, .lconst 0, [])] (by decide +kernel) (y := (105, [some (.int p1), some (.long p2), none, some (.long p3), none], [.long 0], h)) rfl ?_
                obtain rfl := Option.some.inj hF
                exact j15
              · replace hF := i_neg b16 hF
                refine en_segs [(100, .lconst 1, []), (101, .goto 4, [105])] (by decide +kernel) (y := (105, [some (.int p1), some (.long p2), none, some (.long p3), none], [.long 1], h)) rfl ?_
                obtain rfl := Option.some.inj hF
                exact j15
            · replace hF := i_neg b13 hF
              by_cases b17 : p1 = 26
              · replace hF := i_pos b17 hF
                refine en_tsC (by decide +kernel : u_at kl_39 1 = some (.tableswitch 145 20 29 #[55, 59, 63, 67, 81, 93, 105, 117, 129, 141], [146, 56, 60, 64, 68, 82, 94, 106, 118, 130, 142])) (by rw [b17]; decide) (u := 106) (by rw [b17]; rfl) ?_
                refine en_segs [(106, .lload_n 1, []), (107, .lload_n 3, []), (108, .lcmp, [])] (by decide +kernel) (y := (109, [some (.int p1), some (.long p2), none, some (.long p3), none], [.int (lg_cmp p2 p3)], h)) rfl ?_
                obtain ⟨t18, hX, hK⟩ := ob_some hF
                have j19 : Ends (EX D) (u_at kl_39) (117, [some (.int p1), some (.long p2), none, some (.long p3), none], [.long t18], h) QQ := by
                  have hF := hK
                  obtain rfl := Option.some.inj hF
                  exact en_ret (by decide +kernel : u_at kl_39 117 = some (.lreturn, [])) rfl (hQ)
                have hF := hX
                refine en_if_ne (by decide +kernel : u_at kl_39 109 = some (.ifCond .ne 7, [116])) (fun b20 => ?_) (fun b20 => ?_)
                · replace hF := i_pos b20 hF
                  refine en_segs [(112, .lconst 1, []), (113, .goto 4, [117])] (by decide +kernel) (y := (117, [some (.int p1), some (.long p2), none, some (.long p3), none], [.long 1], h)) rfl ?_
                  obtain rfl := Option.some.inj hF
                  exact j19
                · replace hF := i_neg b20 hF
                  refine en_segs [(116, .lconst 0, [])] (by decide +kernel) (y := (117, [some (.int p1), some (.long p2), none, some (.long p3), none], [.long 0], h)) rfl ?_
                  obtain rfl := Option.some.inj hF
                  exact j19
              · replace hF := i_neg b17 hF
                by_cases b21 : p1 = 27
                · replace hF := i_pos b21 hF
                  refine en_tsC (by decide +kernel : u_at kl_39 1 = some (.tableswitch 145 20 29 #[55, 59, 63, 67, 81, 93, 105, 117, 129, 141], [146, 56, 60, 64, 68, 82, 94, 106, 118, 130, 142])) (by rw [b21]; decide) (u := 118) (by rw [b21]; rfl) ?_
                  refine en_segs [(118, .lload_n 1, []), (119, .lload_n 3, []), (120, .lcmp, [])] (by decide +kernel) (y := (121, [some (.int p1), some (.long p2), none, some (.long p3), none], [.int (lg_cmp p2 p3)], h)) rfl ?_
                  obtain ⟨t22, hX, hK⟩ := ob_some hF
                  have j23 : Ends (EX D) (u_at kl_39) (129, [some (.int p1), some (.long p2), none, some (.long p3), none], [.long t22], h) QQ := by
                    have hF := hK
                    obtain rfl := Option.some.inj hF
                    exact en_ret (by decide +kernel : u_at kl_39 129 = some (.lreturn, [])) rfl (hQ)
                  have hF := hX
                  refine en_if_lt (by decide +kernel : u_at kl_39 121 = some (.ifCond .lt 7, [128])) (fun b24 => ?_) (fun b24 => ?_)
                  · replace hF := i_pos b24 hF
                    refine en_segs [(128, .lconst 0, [])] (by decide +kernel) (y := (129, [some (.int p1), some (.long p2), none, some (.long p3), none], [.long 0], h)) rfl ?_
                    obtain rfl := Option.some.inj hF
                    exact j23
                  · replace hF := i_neg b24 hF
                    refine en_segs [(124, .lconst 1, []), (125, .goto 4, [129])] (by decide +kernel) (y := (129, [some (.int p1), some (.long p2), none, some (.long p3), none], [.long 1], h)) rfl ?_
                    obtain rfl := Option.some.inj hF
                    exact j23
                · replace hF := i_neg b21 hF
                  by_cases b25 : p1 = 28
                  · replace hF := i_pos b25 hF
                    refine en_tsC (by decide +kernel : u_at kl_39 1 = some (.tableswitch 145 20 29 #[55, 59, 63, 67, 81, 93, 105, 117, 129, 141], [146, 56, 60, 64, 68, 82, 94, 106, 118, 130, 142])) (by rw [b25]; decide) (u := 130) (by rw [b25]; rfl) ?_
                    refine en_segs [(130, .lload_n 1, []), (131, .lload_n 3, []), (132, .lcmp, [])] (by decide +kernel) (y := (133, [some (.int p1), some (.long p2), none, some (.long p3), none], [.int (lg_cmp p2 p3)], h)) rfl ?_
                    obtain ⟨t26, hX, hK⟩ := ob_some hF
                    have j27 : Ends (EX D) (u_at kl_39) (141, [some (.int p1), some (.long p2), none, some (.long p3), none], [.long t26], h) QQ := by
                      have hF := hK
                      obtain rfl := Option.some.inj hF
                      exact en_ret (by decide +kernel : u_at kl_39 141 = some (.lreturn, [])) rfl (hQ)
                    have hF := hX
                    refine en_if_le (by decide +kernel : u_at kl_39 133 = some (.ifCond .le 7, [140])) (fun b28 => ?_) (fun b28 => ?_)
                    · replace hF := i_pos b28 hF
                      refine en_segs [(140, .lconst 0, [])] (by decide +kernel) (y := (141, [some (.int p1), some (.long p2), none, some (.long p3), none], [.long 0], h)) rfl ?_
                      obtain rfl := Option.some.inj hF
                      exact j27
                    · replace hF := i_neg b28 hF
                      refine en_segs [(136, .lconst 1, []), (137, .goto 4, [141])] (by decide +kernel) (y := (141, [some (.int p1), some (.long p2), none, some (.long p3), none], [.long 1], h)) rfl ?_
                      obtain rfl := Option.some.inj hF
                      exact j27
                  · replace hF := i_neg b25 hF
                    by_cases b29 : p1 = 29
                    · replace hF := i_pos b29 hF
                      refine en_tsC (by decide +kernel : u_at kl_39 1 = some (.tableswitch 145 20 29 #[55, 59, 63, 67, 81, 93, 105, 117, 129, 141], [146, 56, 60, 64, 68, 82, 94, 106, 118, 130, 142])) (by rw [b29]; decide) (u := 142) (by rw [b29]; rfl) ?_
                      refine en_segs [(142, .lload_n 1, []), (143, .lload_n 3, []), (144, .land, [])] (by decide +kernel) (y := (145, [some (.int p1), some (.long p2), none, some (.long p3), none], [.long (p2 &&& p3)], h)) rfl ?_
                      obtain rfl := Option.some.inj hF
                      exact en_ret (by decide +kernel : u_at kl_39 145 = some (.lreturn, [])) rfl (hQ)
                    · replace hF := i_neg b29 hF
                      have wb1 : (p1 : Int32).toInt ≠ 20 := ti_ne b1
                      have wb2 : (p1 : Int32).toInt ≠ 21 := ti_ne b2
                      have wb3 : (p1 : Int32).toInt ≠ 22 := ti_ne b3
                      have wb4 : (p1 : Int32).toInt ≠ 23 := ti_ne b4
                      have wb9 : (p1 : Int32).toInt ≠ 24 := ti_ne b9
                      have wb13 : (p1 : Int32).toInt ≠ 25 := ti_ne b13
                      have wb17 : (p1 : Int32).toInt ≠ 26 := ti_ne b17
                      have wb21 : (p1 : Int32).toInt ≠ 27 := ti_ne b21
                      have wb25 : (p1 : Int32).toInt ≠ 28 := ti_ne b25
                      have wb29 : (p1 : Int32).toInt ≠ 29 := ti_ne b29
                      refine en_tsO (by decide +kernel : u_at kl_39 1 = some (.tableswitch 145 20 29 #[55, 59, 63, 67, 81, 93, 105, 117, 129, 141], [146, 56, 60, 64, 68, 82, 94, 106, 118, 130, 142])) (by omega) ?_
                      refine en_segs [(146, .lload_n 1, []), (147, .lload_n 3, []), (148, .lor, [])] (by decide +kernel) (y := (149, [some (.int p1), some (.long p2), none, some (.long p3), none], [.long (p2 ||| p3)], h)) rfl ?_
                      obtain rfl := Option.some.inj hF
                      exact en_ret (by decide +kernel : u_at kl_39 149 = some (.lreturn, [])) rfl (hQ)
def F_104 (a0 : Nat) (p1 : Int32) : Option Int32 :=
  ((if p1 = (-1) then
  some 99
  else
  some p1) : Option (Int32)) >>= fun (t1 : Int32) =>
  some t1
set_option maxRecDepth 100000 in
set_option maxHeartbeats 4000000 in
/-- HeadCounts$State.roomOr99 -/
theorem e_104 {D : Nat} {c0 c1 c2 c3 c4 c5 c6 c7 c8 c9 c10 c11 c12 c13 : Cl} {d : Ad} {h : UH} {a0 : Nat} {p1 : Int32} {r : Int32} (hD : 1 ≤ D) (hW : HW (mkw c0 c1 c2 c3 c4 c5 c6 c7 c8 c9 c10 c11 c12 c13) d h) (ha0 : aK d a0 = (0, 8, 0)) (hF : F_104 a0 p1 = some r) : ∃ q, EX D 104 [.ref a0, .int p1] h q ∧ q.1 = some (.int r) ∧ h = q.2 := by
  obtain ⟨D, rfl⟩ : ∃ E, D = E + 1 := ⟨D - 1, by omega⟩
  unfold F_104 at hF
  refine ex_in (kl := kl_104) (nL := 2) rfl (by decide +kernel) (Nat.le_of_ble_eq_true rfl) ?_
  obtain ⟨QQ, hQQ⟩ : ∃ QQ : UR → Prop, QQ = (fun q : UR => q.1 = some (.int r) ∧ h = q.2) := ⟨_, rfl⟩
  rw [← hQQ]
  have hQ : QQ (some (.int r), h) := by rw [hQQ]; exact ⟨rfl, rfl⟩
  clear hQQ
  show Ends (EX D) (u_at kl_104) (0, [some (.ref a0), some (.int p1)], [], h) QQ
  refine en_segs [(0, .iload_n 1, []), (1, .iconst (-1), [])] (by decide +kernel) (y := (2, [some (.ref a0), some (.int p1)], [.int (-1), .int p1], h)) rfl ?_
  obtain ⟨t1, hX, hK⟩ := ob_some hF
  have j2 : Ends (EX D) (u_at kl_104) (11, [some (.ref a0), some (.int p1)], [.int t1], h) QQ := by
    have hF := hK
    obtain rfl := Option.some.inj hF
    exact en_ret (by decide +kernel : u_at kl_104 11 = some (.ireturn, [0])) rfl (hQ)
  have hF := hX
  refine en_ic_ne (by decide +kernel : u_at kl_104 2 = some (.if_icmp .ne 8, [10])) (fun b3 => ?_) (fun b3 => ?_)
  · replace hF := i_pos b3 hF
    refine en_segs [(5, .bipush 99, []), (7, .goto 4, [11])] (by decide +kernel) (y := (11, [some (.ref a0), some (.int p1)], [.int 99], h)) rfl ?_
    obtain rfl := Option.some.inj hF
    exact j2
  · replace hF := i_neg b3 hF
    refine en_segs [(10, .iload_n 1, [])] (by decide +kernel) (y := (11, [some (.ref a0), some (.int p1)], [.int p1], h)) rfl ?_
    obtain rfl := Option.some.inj hF
    exact j2
def F_95 (c1 : Cl) (c8 : Cl) (a0 : Nat) (p1 : Int32) (p2 : Int32) : Option Int32 :=
  if p2 = 0 then
  ald (cA c8 11 a0) 6 p1 >>= fun v2 =>
  some v2
  else
  ((if p2 ≤ (cI c8 1 a0) then
  irm ((cI c8 1 a0) - p2) 10 >>= fun v6 =>
  ald (cA c8 13 a0) 60 ((v6 * 6) + p1) >>= fun v7 =>
  some v7
  else
  ald (cA c1 12 (cR c8 0 a0)) 6 p1 >>= fun v9 =>
  some v9) : Option (Int32)) >>= fun (t3 : Int32) =>
  some t3
set_option maxRecDepth 100000 in
set_option maxHeartbeats 4000000 in
/-- HeadCounts$State.countAgo -/
theorem e_95 {D : Nat} {c0 c1 c2 c3 c4 c5 c6 c7 c8 c9 c10 c11 c12 c13 : Cl} {d : Ad} {h : UH} {a0 : Nat} {p1 : Int32} {p2 : Int32} {r : Int32} (hD : 1 ≤ D) (hW : HW (mkw c0 c1 c2 c3 c4 c5 c6 c7 c8 c9 c10 c11 c12 c13) d h) (ha0 : aK d a0 = (0, 8, 0)) (hF : F_95 c1 c8 a0 p1 p2 = some r) : ∃ q, EX D 95 [.ref a0, .int p1, .int p2] h q ∧ q.1 = some (.int r) ∧ h = q.2 := by
  obtain ⟨D, rfl⟩ : ∃ E, D = E + 1 := ⟨D - 1, by omega⟩
  unfold F_95 at hF
  refine ex_in (kl := kl_95) (nL := 3) rfl (by decide +kernel) (Nat.le_of_ble_eq_true rfl) ?_
  obtain ⟨QQ, hQQ⟩ : ∃ QQ : UR → Prop, QQ = (fun q : UR => q.1 = some (.int r) ∧ h = q.2) := ⟨_, rfl⟩
  rw [← hQQ]
  have hQ : QQ (some (.int r), h) := by rw [hQQ]; exact ⟨rfl, rfl⟩
  clear hQQ
  show Ends (EX D) (u_at kl_95) (0, [some (.ref a0), some (.int p1), some (.int p2)], [], h) QQ
  refine en_segs [(0, .iload_n 2, [])] (by decide +kernel) (y := (1, [some (.ref a0), some (.int p1), some (.int p2)], [.int p2], h)) rfl ?_
  refine en_if_ne (by decide +kernel : u_at kl_95 1 = some (.ifCond .ne 10, [11])) (fun b1 => ?_) (fun b1 => ?_)
  · replace hF := i_pos b1 hF
    refine en_segs [(4, .aload_n 0, [])] (by decide +kernel) (y := (5, [some (.ref a0), some (.int p1), some (.int p2)], [.ref a0], h)) rfl ?_
    refine en_get (by decide +kernel : u_at kl_95 5 = some (.getfield 33, [8, 11])) hW ha0 (by decide) rfl ?_
    refine en_segs [(8, .iload_n 1, [])] (by decide +kernel) (y := (9, [some (.ref a0), some (.int p1), some (.int p2)], [.int p1, .ref (aP d 8 11 a0)], h)) rfl ?_
    obtain ⟨v2, hv2, hF⟩ := ob_some hF
    refine en_iald (by decide +kernel : u_at kl_95 9 = some (.iaload, [])) hW ha0 rfl (by decide) hv2 ?_
    obtain rfl := Option.some.inj hF
    exact en_ret (by decide +kernel : u_at kl_95 10 = some (.ireturn, [0])) rfl (hQ)
  · replace hF := i_neg b1 hF
    refine en_segs [(11, .aload_n 0, [])] (by decide +kernel) (y := (12, [some (.ref a0), some (.int p1), some (.int p2)], [.ref a0], h)) rfl ?_
    refine en_get (by decide +kernel : u_at kl_95 12 = some (.getfield 46, [8, 1])) hW ha0 (by decide) rfl ?_
    refine en_segs [(15, .iload_n 2, [])] (by decide +kernel) (y := (16, [some (.ref a0), some (.int p1), some (.int p2)], [.int p2, .int (cI c8 1 a0)], h)) rfl ?_
    obtain ⟨t3, hX, hK⟩ := ob_some hF
    have j4 : Ends (EX D) (u_at kl_95) (50, [some (.ref a0), some (.int p1), some (.int p2)], [.int t3], h) QQ := by
      have hF := hK
      obtain rfl := Option.some.inj hF
      exact en_ret (by decide +kernel : u_at kl_95 50 = some (.ireturn, [0])) rfl (hQ)
    have hF := hX
    refine en_ic_ge (by decide +kernel : u_at kl_95 16 = some (.if_icmp .ge 15, [31])) (fun b5 => ?_) (fun b5 => ?_)
    · replace hF := i_pos b5 hF
      refine en_segs [(31, .aload_n 0, [])] (by decide +kernel) (y := (32, [some (.ref a0), some (.int p1), some (.int p2)], [.ref a0], h)) rfl ?_
      refine en_get (by decide +kernel : u_at kl_95 32 = some (.getfield 39, [8, 13])) hW ha0 (by decide) rfl ?_
      refine en_segs [(35, .aload_n 0, [])] (by decide +kernel) (y := (36, [some (.ref a0), some (.int p1), some (.int p2)], [.ref a0, .ref (aP d 8 13 a0)], h)) rfl ?_
      refine en_get (by decide +kernel : u_at kl_95 36 = some (.getfield 46, [8, 1])) hW ha0 (by decide) rfl ?_
      refine en_segs [(39, .iload_n 2, []), (40, .isub, []), (41, .bipush 10, [])] (by decide +kernel) (y := (43, [some (.ref a0), some (.int p1), some (.int p2)], [.int 10, .int ((cI c8 1 a0) - p2), .ref (aP d 8 13 a0)], h)) rfl ?_
      obtain ⟨v6, hv6, hF⟩ := ob_some hF
      refine en_irem (by decide +kernel : u_at kl_95 43 = some (.irem, [])) hv6 ?_
      refine en_segs [(44, .bipush 6, []), (46, .imul, []), (47, .iload_n 1, []), (48, .iadd, [])] (by decide +kernel) (y := (49, [some (.ref a0), some (.int p1), some (.int p2)], [.int ((v6 * 6) + p1), .ref (aP d 8 13 a0)], h)) rfl ?_
      obtain ⟨v7, hv7, hF⟩ := ob_some hF
      refine en_iald (by decide +kernel : u_at kl_95 49 = some (.iaload, [])) hW ha0 rfl (by decide) hv7 ?_
      obtain rfl := Option.some.inj hF
      exact j4
    · replace hF := i_neg b5 hF
      refine en_segs [(19, .aload_n 0, [])] (by decide +kernel) (y := (20, [some (.ref a0), some (.int p1), some (.int p2)], [.ref a0], h)) rfl ?_
      have k8 : aK d (cR c8 0 a0) = (0, 1, 0) := wf_obj hW ha0 (by decide) rfl
      refine en_get (by decide +kernel : u_at kl_95 20 = some (.getfield 42, [8, 0])) hW ha0 (by decide) rfl ?_
      refine en_get (by decide +kernel : u_at kl_95 23 = some (.getfield 121, [1, 12])) hW k8 (by decide) rfl ?_
      refine en_segs [(26, .iload_n 1, [])] (by decide +kernel) (y := (27, [some (.ref a0), some (.int p1), some (.int p2)], [.int p1, .ref (aP d 1 12 (cR c8 0 a0))], h)) rfl ?_
      obtain ⟨v9, hv9, hF⟩ := ob_some hF
      refine en_iald (by decide +kernel : u_at kl_95 27 = some (.iaload, [])) hW k8 rfl (by decide) hv9 ?_
      refine en_segs [(28, .goto 22, [50])] (by decide +kernel) (y := (50, [some (.ref a0), some (.int p1), some (.int p2)], [.int v9], h)) rfl ?_
      obtain rfl := Option.some.inj hF
      exact j4
def F_96 (c1 : Cl) (c8 : Cl) (a0 : Nat) (p1 : Int32) : Option Int32 :=
  ald (cA c1 9 (cR c8 0 a0)) 6 p1 >>= fun v2 =>
  F_95 c1 c8 a0 p1 v2 >>= fun r3 =>
  some r3
set_option maxRecDepth 100000 in
set_option maxHeartbeats 4000000 in
/-- HeadCounts$State.feltIn -/
theorem e_96 {D : Nat} {c0 c1 c2 c3 c4 c5 c6 c7 c8 c9 c10 c11 c12 c13 : Cl} {d : Ad} {h : UH} {a0 : Nat} {p1 : Int32} {r : Int32} (hD : 2 ≤ D) (hW : HW (mkw c0 c1 c2 c3 c4 c5 c6 c7 c8 c9 c10 c11 c12 c13) d h) (ha0 : aK d a0 = (0, 8, 0)) (hF : F_96 c1 c8 a0 p1 = some r) : ∃ q, EX D 96 [.ref a0, .int p1] h q ∧ q.1 = some (.int r) ∧ h = q.2 := by
  obtain ⟨D, rfl⟩ : ∃ E, D = E + 1 := ⟨D - 1, by omega⟩
  unfold F_96 at hF
  refine ex_in (kl := kl_96) (nL := 2) rfl (by decide +kernel) (Nat.le_of_ble_eq_true rfl) ?_
  obtain ⟨QQ, hQQ⟩ : ∃ QQ : UR → Prop, QQ = (fun q : UR => q.1 = some (.int r) ∧ h = q.2) := ⟨_, rfl⟩
  rw [← hQQ]
  have hQ : QQ (some (.int r), h) := by rw [hQQ]; exact ⟨rfl, rfl⟩
  clear hQQ
  show Ends (EX D) (u_at kl_96) (0, [some (.ref a0), some (.int p1)], [], h) QQ
  refine en_segs [(0, .aload_n 0, []), (1, .iload_n 1, []), (2, .aload_n 0, [])] (by decide +kernel) (y := (3, [some (.ref a0), some (.int p1)], [.ref a0, .int p1, .ref a0], h)) rfl ?_
  have k1 : aK d (cR c8 0 a0) = (0, 1, 0) := wf_obj hW ha0 (by decide) rfl
  refine en_get (by decide +kernel : u_at kl_96 3 = some (.getfield 42, [8, 0])) hW ha0 (by decide) rfl ?_
  refine en_get (by decide +kernel : u_at kl_96 6 = some (.getfield 124, [1, 9])) hW k1 (by decide) rfl ?_
  refine en_segs [(9, .iload_n 1, [])] (by decide +kernel) (y := (10, [some (.ref a0), some (.int p1)], [.int p1, .ref (aP d 1 9 (cR c8 0 a0)), .int p1, .ref a0], h)) rfl ?_
  obtain ⟨v2, hv2, hF⟩ := ob_some hF
  refine en_iald (by decide +kernel : u_at kl_96 10 = some (.iaload, [])) hW k1 rfl (by decide) hv2 ?_
  obtain ⟨r3, hr3, hF⟩ := ob_some hF
  refine en_vi (r := []) (by decide +kernel : u_at kl_96 11 = some (.invokevirtual 127, [95, 2, 8])) hW ha0 rfl rfl (Nat.le_of_ble_eq_true rfl) (e_95 (D := D) (by omega) hW ha0 hr3) (fun h' q => ?_)
  subst q
  obtain rfl := Option.some.inj hF
  exact en_ret (by decide +kernel : u_at kl_96 14 = some (.ireturn, [0])) rfl (hQ)
def F_91 (c1 : Cl) (c8 : Cl) (a0 : Nat) (p1 : Int32) (p2 : Int32) : Option Int32 :=
  ald (cA c8 7 a0) 6 p1 >>= fun v1 =>
  ((if v1 = 1000000 then
  ald (cA c8 4 a0) 6 p1 >>= fun v6 =>
  ald (cA c8 12 a0) 6 v6 >>= fun v7 =>
  if ((v7 >>> (p2 &&& 31)) &&& 1) = 1 then
  ald (cA c8 11 a0) 6 p2 >>= fun v9 =>
  ald (cA c1 8 (cR c8 0 a0)) 6 p1 >>= fun v11 =>
  ald (cA c1 10 (cR c8 0 a0)) 6 p2 >>= fun v12 =>
  if v12 < (v9 + v11) then
  some 0
  else
  some 1
  else
  some 0
  else
  some 0) : Option (Int32)) >>= fun (t2 : Int32) =>
  zb t2 >>= fun z4 => some z4
set_option maxRecDepth 100000 in
set_option maxHeartbeats 4000000 in
/-- HeadCounts$State.canGo -/
theorem e_91 {D : Nat} {c0 c1 c2 c3 c4 c5 c6 c7 c8 c9 c10 c11 c12 c13 : Cl} {d : Ad} {h : UH} {a0 : Nat} {p1 : Int32} {p2 : Int32} {r : Int32} (hD : 1 ≤ D) (hW : HW (mkw c0 c1 c2 c3 c4 c5 c6 c7 c8 c9 c10 c11 c12 c13) d h) (ha0 : aK d a0 = (0, 8, 0)) (hF : F_91 c1 c8 a0 p1 p2 = some r) : ∃ q, EX D 91 [.ref a0, .int p1, .int p2] h q ∧ q.1 = some (.int r) ∧ h = q.2 := by
  obtain ⟨D, rfl⟩ : ∃ E, D = E + 1 := ⟨D - 1, by omega⟩
  unfold F_91 at hF
  refine ex_in (kl := kl_91) (nL := 3) rfl (by decide +kernel) (Nat.le_of_ble_eq_true rfl) ?_
  obtain ⟨QQ, hQQ⟩ : ∃ QQ : UR → Prop, QQ = (fun q : UR => q.1 = some (.int r) ∧ h = q.2) := ⟨_, rfl⟩
  rw [← hQQ]
  have hQ : QQ (some (.int r), h) := by rw [hQQ]; exact ⟨rfl, rfl⟩
  clear hQQ
  show Ends (EX D) (u_at kl_91) (0, [some (.ref a0), some (.int p1), some (.int p2)], [], h) QQ
  refine en_segs [(0, .aload_n 0, [])] (by decide +kernel) (y := (1, [some (.ref a0), some (.int p1), some (.int p2)], [.ref a0], h)) rfl ?_
  refine en_get (by decide +kernel : u_at kl_91 1 = some (.getfield 21, [8, 7])) hW ha0 (by decide) rfl ?_
  refine en_segs [(4, .iload_n 1, [])] (by decide +kernel) (y := (5, [some (.ref a0), some (.int p1), some (.int p2)], [.int p1, .ref (aP d 8 7 a0)], h)) rfl ?_
  obtain ⟨v1, hv1, hF⟩ := ob_some hF
  refine en_iald (by decide +kernel : u_at kl_91 5 = some (.iaload, [])) hW ha0 rfl (by decide) hv1 ?_
  refine en_segs [(6, .ldc 76, [1000000])] (by decide +kernel) (y := (8, [some (.ref a0), some (.int p1), some (.int p2)], [.int 1000000, .int v1], h)) rfl ?_
  obtain ⟨t2, hX, hK⟩ := ob_some hF
  have j3 : Ends (EX D) (u_at kl_91) (63, [some (.ref a0), some (.int p1), some (.int p2)], [.int t2], h) QQ := by
    have hF := hK
    obtain ⟨z4, hz4, hF⟩ := ob_some hF
    obtain rfl := Option.some.inj hF
    exact en_retZ (by decide +kernel : u_at kl_91 63 = some (.ireturn, [1])) hz4 (hQ)
  have hF := hX
  refine en_ic_ne (by decide +kernel : u_at kl_91 8 = some (.if_icmp .ne 54, [62])) (fun b5 => ?_) (fun b5 => ?_)
  · replace hF := i_pos b5 hF
    refine en_segs [(11, .aload_n 0, [])] (by decide +kernel) (y := (12, [some (.ref a0), some (.int p1), some (.int p2)], [.ref a0], h)) rfl ?_
    refine en_get (by decide +kernel : u_at kl_91 12 = some (.getfield 36, [8, 12])) hW ha0 (by decide) rfl ?_
    refine en_segs [(15, .aload_n 0, [])] (by decide +kernel) (y := (16, [some (.ref a0), some (.int p1), some (.int p2)], [.ref a0, .ref (aP d 8 12 a0)], h)) rfl ?_
    refine en_get (by decide +kernel : u_at kl_91 16 = some (.getfield 9, [8, 4])) hW ha0 (by decide) rfl ?_
    refine en_segs [(19, .iload_n 1, [])] (by decide +kernel) (y := (20, [some (.ref a0), some (.int p1), some (.int p2)], [.int p1, .ref (aP d 8 4 a0), .ref (aP d 8 12 a0)], h)) rfl ?_
    obtain ⟨v6, hv6, hF⟩ := ob_some hF
    refine en_iald (by decide +kernel : u_at kl_91 20 = some (.iaload, [])) hW ha0 rfl (by decide) hv6 ?_
    obtain ⟨v7, hv7, hF⟩ := ob_some hF
    refine en_iald (by decide +kernel : u_at kl_91 21 = some (.iaload, [])) hW ha0 rfl (by decide) hv7 ?_
    refine en_segs [(22, .iload_n 2, []), (23, .ishr, []), (24, .iconst 1, []), (25, .iand, []), (26, .iconst 1, [])] (by decide +kernel) (y := (27, [some (.ref a0), some (.int p1), some (.int p2)], [.int 1, .int ((v7 >>> (p2 &&& 31)) &&& 1)], h)) rfl ?_
    refine en_ic_ne (by decide +kernel : u_at kl_91 27 = some (.if_icmp .ne 35, [62])) (fun b8 => ?_) (fun b8 => ?_)
    · replace hF := i_pos b8 hF
      refine en_segs [(30, .aload_n 0, [])] (by decide +kernel) (y := (31, [some (.ref a0), some (.int p1), some (.int p2)], [.ref a0], h)) rfl ?_
      refine en_get (by decide +kernel : u_at kl_91 31 = some (.getfield 33, [8, 11])) hW ha0 (by decide) rfl ?_
      refine en_segs [(34, .iload_n 2, [])] (by decide +kernel) (y := (35, [some (.ref a0), some (.int p1), some (.int p2)], [.int p2, .ref (aP d 8 11 a0)], h)) rfl ?_
      obtain ⟨v9, hv9, hF⟩ := ob_some hF
      refine en_iald (by decide +kernel : u_at kl_91 35 = some (.iaload, [])) hW ha0 rfl (by decide) hv9 ?_
      refine en_segs [(36, .aload_n 0, [])] (by decide +kernel) (y := (37, [some (.ref a0), some (.int p1), some (.int p2)], [.ref a0, .int v9], h)) rfl ?_
      have k10 : aK d (cR c8 0 a0) = (0, 1, 0) := wf_obj hW ha0 (by decide) rfl
      refine en_get (by decide +kernel : u_at kl_91 37 = some (.getfield 42, [8, 0])) hW ha0 (by decide) rfl ?_
      refine en_get (by decide +kernel : u_at kl_91 40 = some (.getfield 102, [1, 8])) hW k10 (by decide) rfl ?_
      refine en_segs [(43, .iload_n 1, [])] (by decide +kernel) (y := (44, [some (.ref a0), some (.int p1), some (.int p2)], [.int p1, .ref (aP d 1 8 (cR c8 0 a0)), .int v9], h)) rfl ?_
      obtain ⟨v11, hv11, hF⟩ := ob_some hF
      refine en_iald (by decide +kernel : u_at kl_91 44 = some (.iaload, [])) hW k10 rfl (by decide) hv11 ?_
      refine en_segs [(45, .iadd, []), (46, .aload_n 0, [])] (by decide +kernel) (y := (47, [some (.ref a0), some (.int p1), some (.int p2)], [.ref a0, .int (v9 + v11)], h)) rfl ?_
      refine en_get (by decide +kernel : u_at kl_91 47 = some (.getfield 42, [8, 0])) hW ha0 (by decide) rfl ?_
      refine en_get (by decide +kernel : u_at kl_91 50 = some (.getfield 108, [1, 10])) hW k10 (by decide) rfl ?_
      refine en_segs [(53, .iload_n 2, [])] (by decide +kernel) (y := (54, [some (.ref a0), some (.int p1), some (.int p2)], [.int p2, .ref (aP d 1 10 (cR c8 0 a0)), .int (v9 + v11)], h)) rfl ?_
      obtain ⟨v12, hv12, hF⟩ := ob_some hF
      refine en_iald (by decide +kernel : u_at kl_91 54 = some (.iaload, [])) hW k10 rfl (by decide) hv12 ?_
      refine en_ic_gt (by decide +kernel : u_at kl_91 55 = some (.if_icmp .gt 7, [62])) (fun b13 => ?_) (fun b13 => ?_)
      · replace hF := i_pos b13 hF
        refine en_segs [(62, .iconst 0, [])] (by decide +kernel) (y := (63, [some (.ref a0), some (.int p1), some (.int p2)], [.int 0], h)) rfl ?_
        obtain rfl := Option.some.inj hF
        exact j3
      · replace hF := i_neg b13 hF
        refine en_segs [(58, .iconst 1, []), (59, .goto 4, [63])] (by decide +kernel) (y := (63, [some (.ref a0), some (.int p1), some (.int p2)], [.int 1], h)) rfl ?_
        obtain rfl := Option.some.inj hF
        exact j3
    · replace hF := i_neg b8 hF
      refine en_segs [(62, .iconst 0, [])] (by decide +kernel) (y := (63, [some (.ref a0), some (.int p1), some (.int p2)], [.int 0], h)) rfl ?_
      obtain rfl := Option.some.inj hF
      exact j3
  · replace hF := i_neg b5 hF
    refine en_segs [(62, .iconst 0, [])] (by decide +kernel) (y := (63, [some (.ref a0), some (.int p1), some (.int p2)], [.int 0], h)) rfl ?_
    obtain rfl := Option.some.inj hF
    exact j3
def G_103 (c1 : Cl) (c8 : Cl) (a0 : Nat) (lab : Nat) (xs : List Int32) (ys : List Int64) (zs : List Nat) : Option Int32 := match lab, xs, ys, zs with
  | 0, [x1, x2, x3, x4, x5], [], [] =>
    if (cI c1 0 (cR c8 0 a0)) ≤ x5 then
    some x3
    else
    F_91 c1 c8 a0 x1 x5 >>= fun r3 =>
    if r3 = 0 then
    G_103 c1 c8 a0 0 [x1, x2, x3, x4, x5 + 1] [] []
    else
    ((if x2 = 0 then
    F_96 c1 c8 a0 x5 >>= fun r12 =>
    some r12
    else
    F_96 c1 c8 a0 x5 >>= fun r13 =>
    some (-r13)) : Option (Int32)) >>= fun (t5 : Int32) =>
    ((if x3 = (-1) then
    some (x5, t5)
    else
    if x4 ≤ t5 then
    some (x3, x4)
    else
    some (x5, t5)) : Option (Int32 × Int32)) >>= fun (t7 : Int32 × Int32) =>
    G_103 c1 c8 a0 0 [x1, x2, t7.1, t7.2, x5 + 1] [] []
  | _, _, _, _ => none
partial_fixpoint
set_option maxRecDepth 100000 in
set_option maxHeartbeats 4000000 in
theorem g_103 {D : Nat} (hD : 3 ≤ D + 1) {c0 c1 c2 c3 c4 c5 c6 c7 c8 c9 c10 c11 c12 c13 : Cl} {d : Ad} {a0 : Nat} (ha0 : aK d a0 = (0, 8, 0)) : ∀ (lab : Nat) (xs : List Int32) (ys : List Int64) (zs : List Nat) (r : Int32), G_103 c1 c8 a0 lab xs ys zs = some r →
    (∀ (x1 : Int32) (x2 : Int32) (x3 : Int32) (x4 : Int32) (x5 : Int32), lab = 0 → xs = [x1, x2, x3, x4, x5] → ys = [] → zs = [] → ∀ h : UH, HW (mkw c0 c1 c2 c3 c4 c5 c6 c7 c8 c9 c10 c11 c12 c13) d h → ∀ QQ : UR → Prop, QQ (some (.int r), h) → Ends (EX D) (u_at kl_103) (8, [some (.ref a0), some (.int x1), some (.int x2), some (.int x3), some (.int x4), some (.int x5), none], [], h) QQ) := by
  refine G_103.partial_correctness _ _ _ (motive := fun lab xs ys zs r =>
    (∀ (x1 : Int32) (x2 : Int32) (x3 : Int32) (x4 : Int32) (x5 : Int32), lab = 0 → xs = [x1, x2, x3, x4, x5] → ys = [] → zs = [] → ∀ h : UH, HW (mkw c0 c1 c2 c3 c4 c5 c6 c7 c8 c9 c10 c11 c12 c13) d h → ∀ QQ : UR → Prop, QQ (some (.int r), h) → Ends (EX D) (u_at kl_103) (8, [some (.ref a0), some (.int x1), some (.int x2), some (.int x3), some (.int x4), some (.int x5), none], [], h) QQ)) ?_
  intro G ih lab xs ys zs r hF
  · intro x1 x2 x3 x4 x5 e1 e2 e3 e4 h hW QQ hQ
    subst e1 e2 e3 e4
    refine en_segs [(8, .iload 5, []), (10, .aload_n 0, [])] (by decide +kernel) (y := (11, [some (.ref a0), some (.int x1), some (.int x2), some (.int x3), some (.int x4), some (.int x5), none], [.ref a0, .int x5], h)) rfl ?_
    have k1 : aK d (cR c8 0 a0) = (0, 1, 0) := wf_obj hW ha0 (by decide) rfl
    refine en_get (by decide +kernel : u_at kl_103 11 = some (.getfield 42, [8, 0])) hW ha0 (by decide) rfl ?_
    refine en_get (by decide +kernel : u_at kl_103 14 = some (.getfield 114, [1, 0])) hW k1 (by decide) rfl ?_
    refine en_ic_ge (by decide +kernel : u_at kl_103 17 = some (.if_icmp .ge 60, [77])) (fun b2 => ?_) (fun b2 => ?_)
    · replace hF := i_pos b2 hF
      refine en_segs [(77, .iload_n 3, [])] (by decide +kernel) (y := (78, [some (.ref a0), some (.int x1), some (.int x2), some (.int x3), some (.int x4), some (.int x5), none], [.int x3], h)) rfl ?_
      obtain rfl := Option.some.inj hF
      exact en_ret (by decide +kernel : u_at kl_103 78 = some (.ireturn, [0])) rfl (hQ)
    · replace hF := i_neg b2 hF
      refine en_segs [(20, .aload_n 0, []), (21, .iload_n 1, []), (22, .iload 5, [])] (by decide +kernel) (y := (24, [some (.ref a0), some (.int x1), some (.int x2), some (.int x3), some (.int x4), some (.int x5), none], [.int x5, .int x1, .ref a0], h)) rfl ?_
      obtain ⟨r3, hr3, hF⟩ := ob_some hF
      refine en_vi (r := []) (by decide +kernel : u_at kl_103 24 = some (.invokevirtual 141, [91, 2, 8])) hW ha0 rfl rfl (Nat.le_of_ble_eq_true rfl) (e_91 (D := D) (by omega) hW ha0 hr3) (fun h' q => ?_)
      subst q
      refine en_if_eq (by decide +kernel : u_at kl_103 27 = some (.ifCond .eq 44, [71])) (fun b4 => ?_) (fun b4 => ?_)
      · replace hF := i_pos b4 hF
        refine en_segs [(71, .iinc 5 1, []), (74, .goto (-66), [8])] (by decide +kernel) (y := (8, [some (.ref a0), some (.int x1), some (.int x2), some (.int x3), some (.int x4), some (.int (x5 + 1)), none], [], h)) rfl ?_
        exact (ih _ _ _ _ _ hF) _ _ _ _ _ rfl rfl rfl rfl  _ hW _ hQ
      · replace hF := i_neg b4 hF
        refine en_segs [(30, .iload_n 2, [])] (by decide +kernel) (y := (31, [some (.ref a0), some (.int x1), some (.int x2), some (.int x3), some (.int x4), some (.int x5), none], [.int x2], h)) rfl ?_
        obtain ⟨t5, hX, hK⟩ := ob_some hF
        have j6 : Ends (EX D) (u_at kl_103) (50, [some (.ref a0), some (.int x1), some (.int x2), some (.int x3), some (.int x4), some (.int x5), none], [.int t5], h) QQ := by
          have hF := hK
          refine en_segs [(50, .istore 6, []), (52, .iload_n 3, []), (53, .iconst (-1), [])] (by decide +kernel) (y := (54, [some (.ref a0), some (.int x1), some (.int x2), some (.int x3), some (.int x4), some (.int x5), some (.int t5)], [.int (-1), .int x3], h)) rfl ?_
          obtain ⟨t7, hX, hK⟩ := ob_some hF
          have j8 : Ends (EX D) (u_at kl_103) (71, [some (.ref a0), some (.int x1), some (.int x2), some (.int t7.1), some (.int t7.2), some (.int x5), some (.int t5)], [], h) QQ := by
            have hF := hK
            refine en_segs [(71, .iinc 5 1, []), (74, .goto (-66), [8])] (by decide +kernel) (y := (8, [some (.ref a0), some (.int x1), some (.int x2), some (.int t7.1), some (.int t7.2), some (.int (x5 + 1)), some (.int t5)], [], h)) rfl ?_
            refine en_fg (fg_k (fg_k (fg_k (fg_k (fg_k (fg_k (fg_d fg_0))))))) ?_
            exact (ih _ _ _ _ _ hF) _ _ _ _ _ rfl rfl rfl rfl  _ hW _ hQ
          have hF := hX
          refine en_ic_eq (by decide +kernel : u_at kl_103 54 = some (.if_icmp .eq 10, [64])) (fun b9 => ?_) (fun b9 => ?_)
          · replace hF := i_pos b9 hF
            refine en_segs [(64, .iload 5, []), (66, .istore_n 3, []), (67, .iload 6, []), (69, .istore 4, [])] (by decide +kernel) (y := (71, [some (.ref a0), some (.int x1), some (.int x2), some (.int x5), some (.int t5), some (.int x5), some (.int t5)], [], h)) rfl ?_
            obtain rfl := Option.some.inj hF
            exact j8
          · replace hF := i_neg b9 hF
            refine en_segs [(57, .iload 6, []), (59, .iload 4, [])] (by decide +kernel) (y := (61, [some (.ref a0), some (.int x1), some (.int x2), some (.int x3), some (.int x4), some (.int x5), some (.int t5)], [.int x4, .int t5], h)) rfl ?_
            refine en_ic_ge (by decide +kernel : u_at kl_103 61 = some (.if_icmp .ge 10, [71])) (fun b10 => ?_) (fun b10 => ?_)
            · replace hF := i_pos b10 hF
              obtain rfl := Option.some.inj hF
              exact j8
            · replace hF := i_neg b10 hF
              refine en_segs [(64, .iload 5, []), (66, .istore_n 3, []), (67, .iload 6, []), (69, .istore 4, [])] (by decide +kernel) (y := (71, [some (.ref a0), some (.int x1), some (.int x2), some (.int x5), some (.int t5), some (.int x5), some (.int t5)], [], h)) rfl ?_
              obtain rfl := Option.some.inj hF
              exact j8
        have hF := hX
        refine en_if_eq (by decide +kernel : u_at kl_103 31 = some (.ifCond .eq 13, [44])) (fun b11 => ?_) (fun b11 => ?_)
        · replace hF := i_pos b11 hF
          refine en_segs [(44, .aload_n 0, []), (45, .iload 5, [])] (by decide +kernel) (y := (47, [some (.ref a0), some (.int x1), some (.int x2), some (.int x3), some (.int x4), some (.int x5), none], [.int x5, .ref a0], h)) rfl ?_
          obtain ⟨r12, hr12, hF⟩ := ob_some hF
          refine en_vi (r := []) (by decide +kernel : u_at kl_103 47 = some (.invokevirtual 134, [96, 1, 8])) hW ha0 rfl rfl (Nat.le_of_ble_eq_true rfl) (e_96 (D := D) (by omega) hW ha0 hr12) (fun h' q => ?_)
          subst q
          obtain rfl := Option.some.inj hF
          exact j6
        · replace hF := i_neg b11 hF
          refine en_segs [(34, .aload_n 0, []), (35, .iload 5, [])] (by decide +kernel) (y := (37, [some (.ref a0), some (.int x1), some (.int x2), some (.int x3), some (.int x4), some (.int x5), none], [.int x5, .ref a0], h)) rfl ?_
          obtain ⟨r13, hr13, hF⟩ := ob_some hF
          refine en_vi (r := []) (by decide +kernel : u_at kl_103 37 = some (.invokevirtual 134, [96, 1, 8])) hW ha0 rfl rfl (Nat.le_of_ble_eq_true rfl) (e_96 (D := D) (by omega) hW ha0 hr13) (fun h' q => ?_)
          subst q
          refine en_segs [(40, .ineg, []), (41, .goto 9, [50])] (by decide +kernel) (y := (50, [some (.ref a0), some (.int x1), some (.int x2), some (.int x3), some (.int x4), some (.int x5), none], [.int (-r13)], h)) rfl ?_
          obtain rfl := Option.some.inj hF
          exact j6
def F_103 (c1 : Cl) (c8 : Cl) (a0 : Nat) (p1 : Int32) (p2 : Int32) : Option Int32 :=
  G_103 c1 c8 a0 0 [p1, p2, (-1), 0, 0] [] []
set_option maxRecDepth 100000 in
set_option maxHeartbeats 4000000 in
/-- HeadCounts$State.roomByFelt -/
theorem e_103 {D : Nat} {c0 c1 c2 c3 c4 c5 c6 c7 c8 c9 c10 c11 c12 c13 : Cl} {d : Ad} {h : UH} {a0 : Nat} {p1 : Int32} {p2 : Int32} {r : Int32} (hD : 3 ≤ D) (hW : HW (mkw c0 c1 c2 c3 c4 c5 c6 c7 c8 c9 c10 c11 c12 c13) d h) (ha0 : aK d a0 = (0, 8, 0)) (hF : F_103 c1 c8 a0 p1 p2 = some r) : ∃ q, EX D 103 [.ref a0, .int p1, .int p2] h q ∧ q.1 = some (.int r) ∧ h = q.2 := by
  obtain ⟨D, rfl⟩ : ∃ E, D = E + 1 := ⟨D - 1, by omega⟩
  unfold F_103 at hF
  refine ex_in (kl := kl_103) (nL := 7) rfl (by decide +kernel) (Nat.le_of_ble_eq_true rfl) ?_
  obtain ⟨QQ, hQQ⟩ : ∃ QQ : UR → Prop, QQ = (fun q : UR => q.1 = some (.int r) ∧ h = q.2) := ⟨_, rfl⟩
  rw [← hQQ]
  have hQ : QQ (some (.int r), h) := by rw [hQQ]; exact ⟨rfl, rfl⟩
  clear hQQ
  show Ends (EX D) (u_at kl_103) (0, [some (.ref a0), some (.int p1), some (.int p2), none, none, none, none], [], h) QQ
  refine en_segs [(0, .iconst (-1), []), (1, .istore_n 3, []), (2, .iconst 0, []), (3, .istore 4, []), (5, .iconst 0, []), (6, .istore 5, [])] (by decide +kernel) (y := (8, [some (.ref a0), some (.int p1), some (.int p2), some (.int (-1)), some (.int 0), some (.int 0), none], [], h)) rfl ?_
  exact (g_103 (D := D) hD ha0 _ _ _ _ _ hF) _ _ _ _ _ rfl rfl rfl rfl  _ hW _ hQ
def F_105 (c1 : Cl) (c8 : Cl) (a0 : Nat) (p1 : Int32) : Option Int32 :=
  ((if p1 = (-1) then
  some 0
  else
  F_96 c1 c8 a0 p1 >>= fun r4 =>
  some r4) : Option (Int32)) >>= fun (t1 : Int32) =>
  some t1
set_option maxRecDepth 100000 in
set_option maxHeartbeats 4000000 in
/-- HeadCounts$State.feltOr0 -/
theorem e_105 {D : Nat} {c0 c1 c2 c3 c4 c5 c6 c7 c8 c9 c10 c11 c12 c13 : Cl} {d : Ad} {h : UH} {a0 : Nat} {p1 : Int32} {r : Int32} (hD : 3 ≤ D) (hW : HW (mkw c0 c1 c2 c3 c4 c5 c6 c7 c8 c9 c10 c11 c12 c13) d h) (ha0 : aK d a0 = (0, 8, 0)) (hF : F_105 c1 c8 a0 p1 = some r) : ∃ q, EX D 105 [.ref a0, .int p1] h q ∧ q.1 = some (.int r) ∧ h = q.2 := by
  obtain ⟨D, rfl⟩ : ∃ E, D = E + 1 := ⟨D - 1, by omega⟩
  unfold F_105 at hF
  refine ex_in (kl := kl_105) (nL := 2) rfl (by decide +kernel) (Nat.le_of_ble_eq_true rfl) ?_
  obtain ⟨QQ, hQQ⟩ : ∃ QQ : UR → Prop, QQ = (fun q : UR => q.1 = some (.int r) ∧ h = q.2) := ⟨_, rfl⟩
  rw [← hQQ]
  have hQ : QQ (some (.int r), h) := by rw [hQQ]; exact ⟨rfl, rfl⟩
  clear hQQ
  show Ends (EX D) (u_at kl_105) (0, [some (.ref a0), some (.int p1)], [], h) QQ
  refine en_segs [(0, .iload_n 1, []), (1, .iconst (-1), [])] (by decide +kernel) (y := (2, [some (.ref a0), some (.int p1)], [.int (-1), .int p1], h)) rfl ?_
  obtain ⟨t1, hX, hK⟩ := ob_some hF
  have j2 : Ends (EX D) (u_at kl_105) (14, [some (.ref a0), some (.int p1)], [.int t1], h) QQ := by
    have hF := hK
    obtain rfl := Option.some.inj hF
    exact en_ret (by decide +kernel : u_at kl_105 14 = some (.ireturn, [0])) rfl (hQ)
  have hF := hX
  refine en_ic_ne (by decide +kernel : u_at kl_105 2 = some (.if_icmp .ne 7, [9])) (fun b3 => ?_) (fun b3 => ?_)
  · replace hF := i_pos b3 hF
    refine en_segs [(5, .iconst 0, []), (6, .goto 8, [14])] (by decide +kernel) (y := (14, [some (.ref a0), some (.int p1)], [.int 0], h)) rfl ?_
    obtain rfl := Option.some.inj hF
    exact j2
  · replace hF := i_neg b3 hF
    refine en_segs [(9, .aload_n 0, []), (10, .iload_n 1, [])] (by decide +kernel) (y := (11, [some (.ref a0), some (.int p1)], [.int p1, .ref a0], h)) rfl ?_
    obtain ⟨r4, hr4, hF⟩ := ob_some hF
    refine en_vi (r := []) (by decide +kernel : u_at kl_105 11 = some (.invokevirtual 134, [96, 1, 8])) hW ha0 rfl rfl (Nat.le_of_ble_eq_true rfl) (e_96 (D := D) (by omega) hW ha0 hr4) (fun h' q => ?_)
    subst q
    obtain rfl := Option.some.inj hF
    exact j2
def F_106 (c1 : Cl) (c8 : Cl) (a0 : Nat) (p1 : Int32) (p2 : Int32) : Option Int32 :=
  if p1 = 0 then
  some p2
  else
  if p1 = 1 then
  ald (cA c1 8 (cR c8 0 a0)) 6 p2 >>= fun v4 =>
  some v4
  else
  if p1 = 2 then
  ald (cA c8 4 a0) 6 p2 >>= fun v6 =>
  some v6
  else
  if p1 = 3 then
  ald (cA c1 7 (cR c8 0 a0)) 6 p2 >>= fun v9 =>
  some v9
  else
  if p1 = 4 then
  ald (cA c8 5 a0) 6 p2 >>= fun v11 =>
  F_104 a0 v11 >>= fun r12 =>
  some r12
  else
  if p1 = 5 then
  ald (cA c8 4 a0) 6 p2 >>= fun v14 =>
  F_96 c1 c8 a0 v14 >>= fun r15 =>
  some r15
  else
  if p1 = 6 then
  F_103 c1 c8 a0 p2 0 >>= fun r17 =>
  F_104 a0 r17 >>= fun r18 =>
  some r18
  else
  if p1 = 7 then
  F_103 c1 c8 a0 p2 1 >>= fun r20 =>
  F_104 a0 r20 >>= fun r21 =>
  some r21
  else
  if p1 = 8 then
  F_103 c1 c8 a0 p2 0 >>= fun r23 =>
  F_105 c1 c8 a0 r23 >>= fun r24 =>
  some r24
  else
  if p1 = 9 then
  F_103 c1 c8 a0 p2 1 >>= fun r26 =>
  F_105 c1 c8 a0 r26 >>= fun r27 =>
  some r27
  else
  if p1 = 10 then
  ald (cA c8 6 a0) 6 p2 >>= fun v29 =>
  some v29
  else
  some (cI c8 1 a0)
set_option maxRecDepth 100000 in
set_option maxHeartbeats 4000000 in
/-- HeadCounts$State.wordFor -/
theorem e_106 {D : Nat} {c0 c1 c2 c3 c4 c5 c6 c7 c8 c9 c10 c11 c12 c13 : Cl} {d : Ad} {h : UH} {a0 : Nat} {p1 : Int32} {p2 : Int32} {r : Int32} (hD : 4 ≤ D) (hW : HW (mkw c0 c1 c2 c3 c4 c5 c6 c7 c8 c9 c10 c11 c12 c13) d h) (ha0 : aK d a0 = (0, 8, 0)) (hF : F_106 c1 c8 a0 p1 p2 = some r) : ∃ q, EX D 106 [.ref a0, .int p1, .int p2] h q ∧ q.1 = some (.int r) ∧ h = q.2 := by
  obtain ⟨D, rfl⟩ : ∃ E, D = E + 1 := ⟨D - 1, by omega⟩
  unfold F_106 at hF
  refine ex_in (kl := kl_106) (nL := 3) rfl (by decide +kernel) (Nat.le_of_ble_eq_true rfl) ?_
  obtain ⟨QQ, hQQ⟩ : ∃ QQ : UR → Prop, QQ = (fun q : UR => q.1 = some (.int r) ∧ h = q.2) := ⟨_, rfl⟩
  rw [← hQQ]
  have hQ : QQ (some (.int r), h) := by rw [hQQ]; exact ⟨rfl, rfl⟩
  clear hQQ
  show Ends (EX D) (u_at kl_106) (0, [some (.ref a0), some (.int p1), some (.int p2)], [], h) QQ
  refine en_segs [(0, .iload_n 1, [])] (by decide +kernel) (y := (1, [some (.ref a0), some (.int p1), some (.int p2)], [.int p1], h)) rfl ?_
  by_cases b1 : p1 = 0
  · replace hF := i_pos b1 hF
    refine en_tsC (by decide +kernel : u_at kl_106 1 = some (.tableswitch 161 0 10 #[59, 61, 71, 78, 88, 99, 110, 121, 132, 143, 154], [162, 60, 62, 72, 79, 89, 100, 111, 122, 133, 144, 155])) (by rw [b1]; decide) (u := 60) (by rw [b1]; rfl) ?_
    refine en_segs [(60, .iload_n 2, [])] (by decide +kernel) (y := (61, [some (.ref a0), some (.int p1), some (.int p2)], [.int p2], h)) rfl ?_
    obtain rfl := Option.some.inj hF
    exact en_ret (by decide +kernel : u_at kl_106 61 = some (.ireturn, [0])) rfl (hQ)
  · replace hF := i_neg b1 hF
    by_cases b2 : p1 = 1
    · replace hF := i_pos b2 hF
      refine en_tsC (by decide +kernel : u_at kl_106 1 = some (.tableswitch 161 0 10 #[59, 61, 71, 78, 88, 99, 110, 121, 132, 143, 154], [162, 60, 62, 72, 79, 89, 100, 111, 122, 133, 144, 155])) (by rw [b2]; decide) (u := 62) (by rw [b2]; rfl) ?_
      refine en_segs [(62, .aload_n 0, [])] (by decide +kernel) (y := (63, [some (.ref a0), some (.int p1), some (.int p2)], [.ref a0], h)) rfl ?_
      have k3 : aK d (cR c8 0 a0) = (0, 1, 0) := wf_obj hW ha0 (by decide) rfl
      refine en_get (by decide +kernel : u_at kl_106 63 = some (.getfield 42, [8, 0])) hW ha0 (by decide) rfl ?_
      refine en_get (by decide +kernel : u_at kl_106 66 = some (.getfield 102, [1, 8])) hW k3 (by decide) rfl ?_
      refine en_segs [(69, .iload_n 2, [])] (by decide +kernel) (y := (70, [some (.ref a0), some (.int p1), some (.int p2)], [.int p2, .ref (aP d 1 8 (cR c8 0 a0))], h)) rfl ?_
      obtain ⟨v4, hv4, hF⟩ := ob_some hF
      refine en_iald (by decide +kernel : u_at kl_106 70 = some (.iaload, [])) hW k3 rfl (by decide) hv4 ?_
      obtain rfl := Option.some.inj hF
      exact en_ret (by decide +kernel : u_at kl_106 71 = some (.ireturn, [0])) rfl (hQ)
    · replace hF := i_neg b2 hF
      by_cases b5 : p1 = 2
      · replace hF := i_pos b5 hF
        refine en_tsC (by decide +kernel : u_at kl_106 1 = some (.tableswitch 161 0 10 #[59, 61, 71, 78, 88, 99, 110, 121, 132, 143, 154], [162, 60, 62, 72, 79, 89, 100, 111, 122, 133, 144, 155])) (by rw [b5]; decide) (u := 72) (by rw [b5]; rfl) ?_
        refine en_segs [(72, .aload_n 0, [])] (by decide +kernel) (y := (73, [some (.ref a0), some (.int p1), some (.int p2)], [.ref a0], h)) rfl ?_
        refine en_get (by decide +kernel : u_at kl_106 73 = some (.getfield 9, [8, 4])) hW ha0 (by decide) rfl ?_
        refine en_segs [(76, .iload_n 2, [])] (by decide +kernel) (y := (77, [some (.ref a0), some (.int p1), some (.int p2)], [.int p2, .ref (aP d 8 4 a0)], h)) rfl ?_
        obtain ⟨v6, hv6, hF⟩ := ob_some hF
        refine en_iald (by decide +kernel : u_at kl_106 77 = some (.iaload, [])) hW ha0 rfl (by decide) hv6 ?_
        obtain rfl := Option.some.inj hF
        exact en_ret (by decide +kernel : u_at kl_106 78 = some (.ireturn, [0])) rfl (hQ)
      · replace hF := i_neg b5 hF
        by_cases b7 : p1 = 3
        · replace hF := i_pos b7 hF
          refine en_tsC (by decide +kernel : u_at kl_106 1 = some (.tableswitch 161 0 10 #[59, 61, 71, 78, 88, 99, 110, 121, 132, 143, 154], [162, 60, 62, 72, 79, 89, 100, 111, 122, 133, 144, 155])) (by rw [b7]; decide) (u := 79) (by rw [b7]; rfl) ?_
          refine en_segs [(79, .aload_n 0, [])] (by decide +kernel) (y := (80, [some (.ref a0), some (.int p1), some (.int p2)], [.ref a0], h)) rfl ?_
          have k8 : aK d (cR c8 0 a0) = (0, 1, 0) := wf_obj hW ha0 (by decide) rfl
          refine en_get (by decide +kernel : u_at kl_106 80 = some (.getfield 42, [8, 0])) hW ha0 (by decide) rfl ?_
          refine en_get (by decide +kernel : u_at kl_106 83 = some (.getfield 61, [1, 7])) hW k8 (by decide) rfl ?_
          refine en_segs [(86, .iload_n 2, [])] (by decide +kernel) (y := (87, [some (.ref a0), some (.int p1), some (.int p2)], [.int p2, .ref (aP d 1 7 (cR c8 0 a0))], h)) rfl ?_
          obtain ⟨v9, hv9, hF⟩ := ob_some hF
          refine en_iald (by decide +kernel : u_at kl_106 87 = some (.iaload, [])) hW k8 rfl (by decide) hv9 ?_
          obtain rfl := Option.some.inj hF
          exact en_ret (by decide +kernel : u_at kl_106 88 = some (.ireturn, [0])) rfl (hQ)
        · replace hF := i_neg b7 hF
          by_cases b10 : p1 = 4
          · replace hF := i_pos b10 hF
            refine en_tsC (by decide +kernel : u_at kl_106 1 = some (.tableswitch 161 0 10 #[59, 61, 71, 78, 88, 99, 110, 121, 132, 143, 154], [162, 60, 62, 72, 79, 89, 100, 111, 122, 133, 144, 155])) (by rw [b10]; decide) (u := 89) (by rw [b10]; rfl) ?_
            refine en_segs [(89, .aload_n 0, []), (90, .aload_n 0, [])] (by decide +kernel) (y := (91, [some (.ref a0), some (.int p1), some (.int p2)], [.ref a0, .ref a0], h)) rfl ?_
            refine en_get (by decide +kernel : u_at kl_106 91 = some (.getfield 15, [8, 5])) hW ha0 (by decide) rfl ?_
            refine en_segs [(94, .iload_n 2, [])] (by decide +kernel) (y := (95, [some (.ref a0), some (.int p1), some (.int p2)], [.int p2, .ref (aP d 8 5 a0), .ref a0], h)) rfl ?_
            obtain ⟨v11, hv11, hF⟩ := ob_some hF
            refine en_iald (by decide +kernel : u_at kl_106 95 = some (.iaload, [])) hW ha0 rfl (by decide) hv11 ?_
            obtain ⟨r12, hr12, hF⟩ := ob_some hF
            refine en_vi (r := []) (by decide +kernel : u_at kl_106 96 = some (.invokevirtual 153, [104, 1, 8])) hW ha0 rfl rfl (Nat.le_of_ble_eq_true rfl) (e_104 (D := D) (by omega) hW ha0 hr12) (fun h' q => ?_)
            subst q
            obtain rfl := Option.some.inj hF
            exact en_ret (by decide +kernel : u_at kl_106 99 = some (.ireturn, [0])) rfl (hQ)
          · replace hF := i_neg b10 hF
            by_cases b13 : p1 = 5
            · replace hF := i_pos b13 hF
              refine en_tsC (by decide +kernel : u_at kl_106 1 = some (.tableswitch 161 0 10 #[59, 61, 71, 78, 88, 99, 110, 121, 132, 143, 154], [162, 60, 62, 72, 79, 89, 100, 111, 122, 133, 144, 155])) (by rw [b13]; decide) (u := 100) (by rw [b13]; rfl) ?_
              refine en_segs [(100, .aload_n 0, []), (101, .aload_n 0, [])] (by decide +kernel) (y := (102, [some (.ref a0), some (.int p1), some (.int p2)], [.ref a0, .ref a0], h)) rfl ?_
              refine en_get (by decide +kernel : u_at kl_106 102 = some (.getfield 9, [8, 4])) hW ha0 (by decide) rfl ?_
              refine en_segs [(105, .iload_n 2, [])] (by decide +kernel) (y := (106, [some (.ref a0), some (.int p1), some (.int p2)], [.int p2, .ref (aP d 8 4 a0), .ref a0], h)) rfl ?_
              obtain ⟨v14, hv14, hF⟩ := ob_some hF
              refine en_iald (by decide +kernel : u_at kl_106 106 = some (.iaload, [])) hW ha0 rfl (by decide) hv14 ?_
              obtain ⟨r15, hr15, hF⟩ := ob_some hF
              refine en_vi (r := []) (by decide +kernel : u_at kl_106 107 = some (.invokevirtual 134, [96, 1, 8])) hW ha0 rfl rfl (Nat.le_of_ble_eq_true rfl) (e_96 (D := D) (by omega) hW ha0 hr15) (fun h' q => ?_)
              subst q
              obtain rfl := Option.some.inj hF
              exact en_ret (by decide +kernel : u_at kl_106 110 = some (.ireturn, [0])) rfl (hQ)
            · replace hF := i_neg b13 hF
              by_cases b16 : p1 = 6
              · replace hF := i_pos b16 hF
                refine en_tsC (by decide +kernel : u_at kl_106 1 = some (.tableswitch 161 0 10 #[59, 61, 71, 78, 88, 99, 110, 121, 132, 143, 154], [162, 60, 62, 72, 79, 89, 100, 111, 122, 133, 144, 155])) (by rw [b16]; decide) (u := 111) (by rw [b16]; rfl) ?_
                refine en_segs [(111, .aload_n 0, []), (112, .aload_n 0, []), (113, .iload_n 2, []), (114, .iconst 0, [])] (by decide +kernel) (y := (115, [some (.ref a0), some (.int p1), some (.int p2)], [.int 0, .int p2, .ref a0, .ref a0], h)) rfl ?_
                obtain ⟨r17, hr17, hF⟩ := ob_some hF
                refine en_vi (r := [.ref a0]) (by decide +kernel : u_at kl_106 115 = some (.invokevirtual 156, [103, 2, 8])) hW ha0 rfl rfl (Nat.le_of_ble_eq_true rfl) (e_103 (D := D) (by omega) hW ha0 hr17) (fun h' q => ?_)
                subst q
                obtain ⟨r18, hr18, hF⟩ := ob_some hF
                refine en_vi (r := []) (by decide +kernel : u_at kl_106 118 = some (.invokevirtual 153, [104, 1, 8])) hW ha0 rfl rfl (Nat.le_of_ble_eq_true rfl) (e_104 (D := D) (by omega) hW ha0 hr18) (fun h' q => ?_)
                subst q
                obtain rfl := Option.some.inj hF
                exact en_ret (by decide +kernel : u_at kl_106 121 = some (.ireturn, [0])) rfl (hQ)
              · replace hF := i_neg b16 hF
                by_cases b19 : p1 = 7
                · replace hF := i_pos b19 hF
                  refine en_tsC (by decide +kernel : u_at kl_106 1 = some (.tableswitch 161 0 10 #[59, 61, 71, 78, 88, 99, 110, 121, 132, 143, 154], [162, 60, 62, 72, 79, 89, 100, 111, 122, 133, 144, 155])) (by rw [b19]; decide) (u := 122) (by rw [b19]; rfl) ?_
                  refine en_segs [(122, .aload_n 0, []), (123, .aload_n 0, []), (124, .iload_n 2, []), (125, .iconst 1, [])] (by decide +kernel) (y := (126, [some (.ref a0), some (.int p1), some (.int p2)], [.int 1, .int p2, .ref a0, .ref a0], h)) rfl ?_
                  obtain ⟨r20, hr20, hF⟩ := ob_some hF
                  refine en_vi (r := [.ref a0]) (by decide +kernel : u_at kl_106 126 = some (.invokevirtual 156, [103, 2, 8])) hW ha0 rfl rfl (Nat.le_of_ble_eq_true rfl) (e_103 (D := D) (by omega) hW ha0 hr20) (fun h' q => ?_)
                  subst q
                  obtain ⟨r21, hr21, hF⟩ := ob_some hF
                  refine en_vi (r := []) (by decide +kernel : u_at kl_106 129 = some (.invokevirtual 153, [104, 1, 8])) hW ha0 rfl rfl (Nat.le_of_ble_eq_true rfl) (e_104 (D := D) (by omega) hW ha0 hr21) (fun h' q => ?_)
                  subst q
                  obtain rfl := Option.some.inj hF
                  exact en_ret (by decide +kernel : u_at kl_106 132 = some (.ireturn, [0])) rfl (hQ)
                · replace hF := i_neg b19 hF
                  by_cases b22 : p1 = 8
                  · replace hF := i_pos b22 hF
                    refine en_tsC (by decide +kernel : u_at kl_106 1 = some (.tableswitch 161 0 10 #[59, 61, 71, 78, 88, 99, 110, 121, 132, 143, 154], [162, 60, 62, 72, 79, 89, 100, 111, 122, 133, 144, 155])) (by rw [b22]; decide) (u := 133) (by rw [b22]; rfl) ?_
                    refine en_segs [(133, .aload_n 0, []), (134, .aload_n 0, []), (135, .iload_n 2, []), (136, .iconst 0, [])] (by decide +kernel) (y := (137, [some (.ref a0), some (.int p1), some (.int p2)], [.int 0, .int p2, .ref a0, .ref a0], h)) rfl ?_
                    obtain ⟨r23, hr23, hF⟩ := ob_some hF
                    refine en_vi (r := [.ref a0]) (by decide +kernel : u_at kl_106 137 = some (.invokevirtual 156, [103, 2, 8])) hW ha0 rfl rfl (Nat.le_of_ble_eq_true rfl) (e_103 (D := D) (by omega) hW ha0 hr23) (fun h' q => ?_)
                    subst q
                    obtain ⟨r24, hr24, hF⟩ := ob_some hF
                    refine en_vi (r := []) (by decide +kernel : u_at kl_106 140 = some (.invokevirtual 160, [105, 1, 8])) hW ha0 rfl rfl (Nat.le_of_ble_eq_true rfl) (e_105 (D := D) (by omega) hW ha0 hr24) (fun h' q => ?_)
                    subst q
                    obtain rfl := Option.some.inj hF
                    exact en_ret (by decide +kernel : u_at kl_106 143 = some (.ireturn, [0])) rfl (hQ)
                  · replace hF := i_neg b22 hF
                    by_cases b25 : p1 = 9
                    · replace hF := i_pos b25 hF
                      refine en_tsC (by decide +kernel : u_at kl_106 1 = some (.tableswitch 161 0 10 #[59, 61, 71, 78, 88, 99, 110, 121, 132, 143, 154], [162, 60, 62, 72, 79, 89, 100, 111, 122, 133, 144, 155])) (by rw [b25]; decide) (u := 144) (by rw [b25]; rfl) ?_
                      refine en_segs [(144, .aload_n 0, []), (145, .aload_n 0, []), (146, .iload_n 2, []), (147, .iconst 1, [])] (by decide +kernel) (y := (148, [some (.ref a0), some (.int p1), some (.int p2)], [.int 1, .int p2, .ref a0, .ref a0], h)) rfl ?_
                      obtain ⟨r26, hr26, hF⟩ := ob_some hF
                      refine en_vi (r := [.ref a0]) (by decide +kernel : u_at kl_106 148 = some (.invokevirtual 156, [103, 2, 8])) hW ha0 rfl rfl (Nat.le_of_ble_eq_true rfl) (e_103 (D := D) (by omega) hW ha0 hr26) (fun h' q => ?_)
                      subst q
                      obtain ⟨r27, hr27, hF⟩ := ob_some hF
                      refine en_vi (r := []) (by decide +kernel : u_at kl_106 151 = some (.invokevirtual 160, [105, 1, 8])) hW ha0 rfl rfl (Nat.le_of_ble_eq_true rfl) (e_105 (D := D) (by omega) hW ha0 hr27) (fun h' q => ?_)
                      subst q
                      obtain rfl := Option.some.inj hF
                      exact en_ret (by decide +kernel : u_at kl_106 154 = some (.ireturn, [0])) rfl (hQ)
                    · replace hF := i_neg b25 hF
                      by_cases b28 : p1 = 10
                      · replace hF := i_pos b28 hF
                        refine en_tsC (by decide +kernel : u_at kl_106 1 = some (.tableswitch 161 0 10 #[59, 61, 71, 78, 88, 99, 110, 121, 132, 143, 154], [162, 60, 62, 72, 79, 89, 100, 111, 122, 133, 144, 155])) (by rw [b28]; decide) (u := 155) (by rw [b28]; rfl) ?_
                        refine en_segs [(155, .aload_n 0, [])] (by decide +kernel) (y := (156, [some (.ref a0), some (.int p1), some (.int p2)], [.ref a0], h)) rfl ?_
                        refine en_get (by decide +kernel : u_at kl_106 156 = some (.getfield 18, [8, 6])) hW ha0 (by decide) rfl ?_
                        refine en_segs [(159, .iload_n 2, [])] (by decide +kernel) (y := (160, [some (.ref a0), some (.int p1), some (.int p2)], [.int p2, .ref (aP d 8 6 a0)], h)) rfl ?_
                        obtain ⟨v29, hv29, hF⟩ := ob_some hF
                        refine en_iald (by decide +kernel : u_at kl_106 160 = some (.iaload, [])) hW ha0 rfl (by decide) hv29 ?_
                        obtain rfl := Option.some.inj hF
                        exact en_ret (by decide +kernel : u_at kl_106 161 = some (.ireturn, [0])) rfl (hQ)
                      · replace hF := i_neg b28 hF
                        have wb1 : (p1 : Int32).toInt ≠ 0 := ti_ne b1
                        have wb2 : (p1 : Int32).toInt ≠ 1 := ti_ne b2
                        have wb5 : (p1 : Int32).toInt ≠ 2 := ti_ne b5
                        have wb7 : (p1 : Int32).toInt ≠ 3 := ti_ne b7
                        have wb10 : (p1 : Int32).toInt ≠ 4 := ti_ne b10
                        have wb13 : (p1 : Int32).toInt ≠ 5 := ti_ne b13
                        have wb16 : (p1 : Int32).toInt ≠ 6 := ti_ne b16
                        have wb19 : (p1 : Int32).toInt ≠ 7 := ti_ne b19
                        have wb22 : (p1 : Int32).toInt ≠ 8 := ti_ne b22
                        have wb25 : (p1 : Int32).toInt ≠ 9 := ti_ne b25
                        have wb28 : (p1 : Int32).toInt ≠ 10 := ti_ne b28
                        refine en_tsO (by decide +kernel : u_at kl_106 1 = some (.tableswitch 161 0 10 #[59, 61, 71, 78, 88, 99, 110, 121, 132, 143, 154], [162, 60, 62, 72, 79, 89, 100, 111, 122, 133, 144, 155])) (by omega) ?_
                        refine en_segs [(162, .aload_n 0, [])] (by decide +kernel) (y := (163, [some (.ref a0), some (.int p1), some (.int p2)], [.ref a0], h)) rfl ?_
                        refine en_get (by decide +kernel : u_at kl_106 163 = some (.getfield 46, [8, 1])) hW ha0 (by decide) rfl ?_
                        obtain rfl := Option.some.inj hF
                        exact en_ret (by decide +kernel : u_at kl_106 166 = some (.ireturn, [0])) rfl (hQ)
def G_38 (c1 : Cl) (c8 : Cl) (c13 : Cl) (d : Ad) (a0 : Nat) (a3 : Nat) (lab : Nat) (xs : List Int32) (ys : List Int64) (zs : List Nat) (c4 : Cl) : Option (Int64 × Cl) := match lab, xs, ys, zs with
  | 0, [x2, x4, x5, x6], [], [] =>
    if x2 ≤ x6 then
    G_38 c1 c8 c13 d a0 a3 2 [x5] [] [] c4
    else
    if (Int32.ofNat (aN d (cR c4 0 a0))) ≤ x6 then
    G_38 c1 c8 c13 d a0 a3 2 [x5] [] [] c4
    else
    ald (cA c13 0 (cR c4 0 a0)) (aN d (cR c4 0 a0)) x6 >>= fun v4 =>
    if v4 = 31 then
    ((if x5 ≤ 0 then
    some c4
    else
    ldl (cB c4 3 a0) 60 (x5 - 1) >>= fun v9 =>
    stl c4 3 a0 60 (x5 - 1) (1 - v9) >>= fun c4_10 =>
    some c4_10) : Option (Cl)) >>= fun (t6 : Cl) =>
    G_38 c1 c8 c13 d a0 a3 0 [x2, x4, x5, x6 + 1] [] [] t6
    else
    if v4 < 20 then
    G_38 c1 c8 c13 d a0 a3 1 [x2, x4, x5, x6, v4] [] [] c4
    else
    if 100 ≤ v4 then
    G_38 c1 c8 c13 d a0 a3 1 [x2, x4, x5, x6, v4] [] [] c4
    else
    ((if x5 ≤ 1 then
    some (x5, c4)
    else
    ldl (cB c4 3 a0) 60 (x5 - 2) >>= fun v16 =>
    ldl (cB c4 3 a0) 60 (x5 - 1) >>= fun v17 =>
    F_39 v4 v16 v17 >>= fun r18 =>
    stl c4 3 a0 60 (x5 - 2) r18 >>= fun c4_19 =>
    some (x5 + (-1), c4_19)) : Option (Int32 × Cl)) >>= fun (t13 : Int32 × Cl) =>
    G_38 c1 c8 c13 d a0 a3 0 [x2, x4, t13.1, x6 + 1] [] [] t13.2
  | 1, [x2, x4, x5, x6, x7], [], [] =>
    if 60 ≤ x5 then
    G_38 c1 c8 c13 d a0 a3 0 [x2, x4, x5, x6 + 1] [] [] c4
    else
    ((if x7 < 100 then
    F_106 c1 c8 a3 x7 x4 >>= fun r29 =>
    some ((r29 : Int32).toInt64)
    else
    some ((x7 - 100 : Int32).toInt64)) : Option (Int64)) >>= fun (t25 : Int64) =>
    stl c4 3 a0 60 x5 t25 >>= fun c4_27 =>
    G_38 c1 c8 c13 d a0 a3 0 [x2, x4, x5 + 1, x6 + 1] [] [] c4_27
  | 2, [x5], [], [] =>
    ((if x5 ≤ 0 then
    some 0
    else
    ldl (cB c4 3 a0) 60 (x5 - 1) >>= fun v23 =>
    some v23) : Option (Int64)) >>= fun (t20 : Int64) =>
    some (t20, c4)
  | _, _, _, _ => none
partial_fixpoint
set_option maxRecDepth 100000 in
set_option maxHeartbeats 4000000 in
theorem g_38 {D : Nat} (hD : 5 ≤ D + 1) {c0 c1 c2 c3 c5 c6 c7 c8 c9 c10 c11 c12 c13 : Cl} {d : Ad} {a0 : Nat} {a3 : Nat} (ha0 : aK d a0 = (0, 4, 0)) (ha3 : aK d a3 = (0, 8, 0)) : ∀ (lab : Nat) (xs : List Int32) (ys : List Int64) (zs : List Nat) (c4 : Cl) (r : (Int64 × Cl)), G_38 c1 c8 c13 d a0 a3 lab xs ys zs c4 = some r →
    (∀ (x2 : Int32) (x4 : Int32) (x5 : Int32) (x6 : Int32), lab = 0 → xs = [x2, x4, x5, x6] → ys = [] → zs = [] → ∀ h : UH, HW (mkw c0 c1 c2 c3 c4 c5 c6 c7 c8 c9 c10 c11 c12 c13) d h → ∀ QQ : UR → Prop, (∀ h' : UH, HW (mkw c0 c1 c2 c3 r.2 c5 c6 c7 c8 c9 c10 c11 c12 c13) d h' → QQ (some (.long r.1), h')) → Ends (EX D) (u_at kl_38) (6, [some (.ref a0), none, some (.int x2), some (.ref a3), some (.int x4), some (.int x5), some (.int x6), none], [], h) QQ) ∧
    (∀ (x2 : Int32) (x4 : Int32) (x5 : Int32) (x6 : Int32) (x7 : Int32), lab = 1 → xs = [x2, x4, x5, x6, x7] → ys = [] → zs = [] → ∀ h : UH, HW (mkw c0 c1 c2 c3 c4 c5 c6 c7 c8 c9 c10 c11 c12 c13) d h → ∀ QQ : UR → Prop, (∀ h' : UH, HW (mkw c0 c1 c2 c3 r.2 c5 c6 c7 c8 c9 c10 c11 c12 c13) d h' → QQ (some (.long r.1), h')) → Ends (EX D) (u_at kl_38) (124, [some (.ref a0), none, some (.int x2), some (.ref a3), some (.int x4), some (.int x5), some (.int x6), some (.int x7)], [], h) QQ) ∧
    (∀ (x5 : Int32), lab = 2 → xs = [x5] → ys = [] → zs = [] → ∀ h : UH, HW (mkw c0 c1 c2 c3 c4 c5 c6 c7 c8 c9 c10 c11 c12 c13) d h → ∀ QQ : UR → Prop, (∀ h' : UH, HW (mkw c0 c1 c2 c3 r.2 c5 c6 c7 c8 c9 c10 c11 c12 c13) d h' → QQ (some (.long r.1), h')) → Ends (EX D) (u_at kl_38) (175, [some (.ref a0), none, none, none, none, some (.int x5), none, none], [], h) QQ) := by
  refine G_38.partial_correctness _ _ _ _ _ _ (motive := fun lab xs ys zs c4 r =>
    (∀ (x2 : Int32) (x4 : Int32) (x5 : Int32) (x6 : Int32), lab = 0 → xs = [x2, x4, x5, x6] → ys = [] → zs = [] → ∀ h : UH, HW (mkw c0 c1 c2 c3 c4 c5 c6 c7 c8 c9 c10 c11 c12 c13) d h → ∀ QQ : UR → Prop, (∀ h' : UH, HW (mkw c0 c1 c2 c3 r.2 c5 c6 c7 c8 c9 c10 c11 c12 c13) d h' → QQ (some (.long r.1), h')) → Ends (EX D) (u_at kl_38) (6, [some (.ref a0), none, some (.int x2), some (.ref a3), some (.int x4), some (.int x5), some (.int x6), none], [], h) QQ) ∧
    (∀ (x2 : Int32) (x4 : Int32) (x5 : Int32) (x6 : Int32) (x7 : Int32), lab = 1 → xs = [x2, x4, x5, x6, x7] → ys = [] → zs = [] → ∀ h : UH, HW (mkw c0 c1 c2 c3 c4 c5 c6 c7 c8 c9 c10 c11 c12 c13) d h → ∀ QQ : UR → Prop, (∀ h' : UH, HW (mkw c0 c1 c2 c3 r.2 c5 c6 c7 c8 c9 c10 c11 c12 c13) d h' → QQ (some (.long r.1), h')) → Ends (EX D) (u_at kl_38) (124, [some (.ref a0), none, some (.int x2), some (.ref a3), some (.int x4), some (.int x5), some (.int x6), some (.int x7)], [], h) QQ) ∧
    (∀ (x5 : Int32), lab = 2 → xs = [x5] → ys = [] → zs = [] → ∀ h : UH, HW (mkw c0 c1 c2 c3 c4 c5 c6 c7 c8 c9 c10 c11 c12 c13) d h → ∀ QQ : UR → Prop, (∀ h' : UH, HW (mkw c0 c1 c2 c3 r.2 c5 c6 c7 c8 c9 c10 c11 c12 c13) d h' → QQ (some (.long r.1), h')) → Ends (EX D) (u_at kl_38) (175, [some (.ref a0), none, none, none, none, some (.int x5), none, none], [], h) QQ)) ?_
  intro G ih lab xs ys zs c4 r hF
  refine ⟨?_, ?_, ?_⟩
  · intro x2 x4 x5 x6 e1 e2 e3 e4 h hW QQ hQ
    subst e1 e2 e3 e4
    refine en_segs [(6, .iload 6, []), (8, .iload_n 2, [])] (by decide +kernel) (y := (9, [some (.ref a0), none, some (.int x2), some (.ref a3), some (.int x4), some (.int x5), some (.int x6), none], [.int x2, .int x6], h)) rfl ?_
    refine en_ic_ge (by decide +kernel : u_at kl_38 9 = some (.if_icmp .ge 166, [175])) (fun b1 => ?_) (fun b1 => ?_)
    · replace hF := i_pos b1 hF
      refine en_fg (fg_k (fg_k (fg_d (fg_d (fg_d (fg_k (fg_d (fg_k fg_0)))))))) ?_
      exact (ih _ _ _ _ _ _ hF).2.2 _ rfl rfl rfl rfl  _ hW _ hQ
    · replace hF := i_neg b1 hF
      refine en_segs [(12, .iload 6, []), (14, .aload_n 0, [])] (by decide +kernel) (y := (15, [some (.ref a0), none, some (.int x2), some (.ref a3), some (.int x4), some (.int x5), some (.int x6), none], [.ref a0, .int x6], h)) rfl ?_
      have k2 : aK d (cR c4 0 a0) = (2, 1, 0) := wf_free hW ha0 (by decide) rfl
      refine en_get (by decide +kernel : u_at kl_38 15 = some (.getfield 17, [4, 0])) hW ha0 (by decide) rfl ?_
      refine en_flen (by decide +kernel : u_at kl_38 18 = some (.arraylength, [])) hW k2 (by decide) ?_
      refine en_ic_ge (by decide +kernel : u_at kl_38 19 = some (.if_icmp .ge 156, [175])) (fun b3 => ?_) (fun b3 => ?_)
      · replace hF := i_pos b3 hF
        refine en_fg (fg_k (fg_k (fg_d (fg_d (fg_d (fg_k (fg_d (fg_k fg_0)))))))) ?_
        exact (ih _ _ _ _ _ _ hF).2.2 _ rfl rfl rfl rfl  _ hW _ hQ
      · replace hF := i_neg b3 hF
        refine en_segs [(22, .aload_n 0, [])] (by decide +kernel) (y := (23, [some (.ref a0), none, some (.int x2), some (.ref a3), some (.int x4), some (.int x5), some (.int x6), none], [.ref a0], h)) rfl ?_
        refine en_get (by decide +kernel : u_at kl_38 23 = some (.getfield 17, [4, 0])) hW ha0 (by decide) rfl ?_
        refine en_segs [(26, .iload 6, [])] (by decide +kernel) (y := (28, [some (.ref a0), none, some (.int x2), some (.ref a3), some (.int x4), some (.int x5), some (.int x6), none], [.int x6, .ref (cR c4 0 a0)], h)) rfl ?_
        obtain ⟨v4, hv4, hF⟩ := ob_some hF
        refine en_fiald (by decide +kernel : u_at kl_38 28 = some (.iaload, [])) hW k2 hv4 ?_
        refine en_segs [(29, .istore 7, []), (31, .iload 7, []), (33, .bipush 31, [])] (by decide +kernel) (y := (35, [some (.ref a0), none, some (.int x2), some (.ref a3), some (.int x4), some (.int x5), some (.int x6), some (.int v4)], [.int 31, .int v4], h)) rfl ?_
        refine en_ic_ne (by decide +kernel : u_at kl_38 35 = some (.if_icmp .ne 31, [66])) (fun b5 => ?_) (fun b5 => ?_)
        · replace hF := i_pos b5 hF
          refine en_segs [(38, .iload 5, [])] (by decide +kernel) (y := (40, [some (.ref a0), none, some (.int x2), some (.ref a3), some (.int x4), some (.int x5), some (.int x6), some (.int v4)], [.int x5], h)) rfl ?_
          obtain ⟨t6, hX, hK⟩ := ob_some hF
          have j7 : ∀ h : UH, HW (mkw c0 c1 c2 c3 t6 c5 c6 c7 c8 c9 c10 c11 c12 c13) d h → Ends (EX D) (u_at kl_38) (169, [some (.ref a0), none, some (.int x2), some (.ref a3), some (.int x4), some (.int x5), some (.int x6), some (.int v4)], [], h) QQ := by
            intro h hW
            have hF := hK
            refine en_segs [(169, .iinc 6 1, []), (172, .goto (-166), [6])] (by decide +kernel) (y := (6, [some (.ref a0), none, some (.int x2), some (.ref a3), some (.int x4), some (.int x5), some (.int (x6 + 1)), some (.int v4)], [], h)) rfl ?_
            refine en_fg (fg_k (fg_k (fg_k (fg_k (fg_k (fg_k (fg_k (fg_d fg_0)))))))) ?_
            exact (ih _ _ _ _ _ _ hF).1 _ _ _ _ rfl rfl rfl rfl  _ hW _ hQ
          have hF := hX
          refine en_if_le (by decide +kernel : u_at kl_38 40 = some (.ifCond .le 129, [169])) (fun b8 => ?_) (fun b8 => ?_)
          · replace hF := i_pos b8 hF
            obtain rfl := Option.some.inj hF
            exact j7 _ hW
          · replace hF := i_neg b8 hF
            refine en_segs [(43, .aload_n 0, [])] (by decide +kernel) (y := (44, [some (.ref a0), none, some (.int x2), some (.ref a3), some (.int x4), some (.int x5), some (.int x6), some (.int v4)], [.ref a0], h)) rfl ?_
            refine en_get (by decide +kernel : u_at kl_38 44 = some (.getfield 11, [4, 3])) hW ha0 (by decide) rfl ?_
            refine en_segs [(47, .iload 5, []), (49, .iconst 1, []), (50, .isub, []), (51, .lconst 1, []), (52, .aload_n 0, [])] (by decide +kernel) (y := (53, [some (.ref a0), none, some (.int x2), some (.ref a3), some (.int x4), some (.int x5), some (.int x6), some (.int v4)], [.ref a0, .long 1, .int (x5 - 1), .ref (aP d 4 3 a0)], h)) rfl ?_
            refine en_get (by decide +kernel : u_at kl_38 53 = some (.getfield 11, [4, 3])) hW ha0 (by decide) rfl ?_
            refine en_segs [(56, .iload 5, []), (58, .iconst 1, []), (59, .isub, [])] (by decide +kernel) (y := (60, [some (.ref a0), none, some (.int x2), some (.ref a3), some (.int x4), some (.int x5), some (.int x6), some (.int v4)], [.int (x5 - 1), .ref (aP d 4 3 a0), .long 1, .int (x5 - 1), .ref (aP d 4 3 a0)], h)) rfl ?_
            obtain ⟨v9, hv9, hF⟩ := ob_some hF
            refine en_lald (by decide +kernel : u_at kl_38 60 = some (.laload, [])) hW ha0 rfl (by decide) hv9 ?_
            refine en_segs [(61, .lsub, [])] (by decide +kernel) (y := (62, [some (.ref a0), none, some (.int x2), some (.ref a3), some (.int x4), some (.int x5), some (.int x6), some (.int v4)], [.long (1 - v9), .int (x5 - 1), .ref (aP d 4 3 a0)], h)) rfl ?_
            obtain ⟨c4_10, hc4_10, hF⟩ := ob_some hF
            refine en_last (by decide +kernel : u_at kl_38 62 = some (.lastore, [])) hW ha0 rfl (by decide) hc4_10 (fun h hW => ?_)
            have hW : HW (mkw c0 c1 c2 c3 c4_10 c5 c6 c7 c8 c9 c10 c11 c12 c13) d h := hW
            refine en_segs [(63, .goto 106, [169])] (by decide +kernel) (y := (169, [some (.ref a0), none, some (.int x2), some (.ref a3), some (.int x4), some (.int x5), some (.int x6), some (.int v4)], [], h)) rfl ?_
            obtain rfl := Option.some.inj hF
            exact j7 _ hW
        · replace hF := i_neg b5 hF
          refine en_segs [(66, .iload 7, []), (68, .bipush 20, [])] (by decide +kernel) (y := (70, [some (.ref a0), none, some (.int x2), some (.ref a3), some (.int x4), some (.int x5), some (.int x6), some (.int v4)], [.int 20, .int v4], h)) rfl ?_
          refine en_ic_lt (by decide +kernel : u_at kl_38 70 = some (.if_icmp .lt 54, [124])) (fun b11 => ?_) (fun b11 => ?_)
          · replace hF := i_pos b11 hF
            exact (ih _ _ _ _ _ _ hF).2.1 _ _ _ _ _ rfl rfl rfl rfl  _ hW _ hQ
          · replace hF := i_neg b11 hF
            refine en_segs [(73, .iload 7, []), (75, .bipush 100, [])] (by decide +kernel) (y := (77, [some (.ref a0), none, some (.int x2), some (.ref a3), some (.int x4), some (.int x5), some (.int x6), some (.int v4)], [.int 100, .int v4], h)) rfl ?_
            refine en_ic_ge (by decide +kernel : u_at kl_38 77 = some (.if_icmp .ge 47, [124])) (fun b12 => ?_) (fun b12 => ?_)
            · replace hF := i_pos b12 hF
              exact (ih _ _ _ _ _ _ hF).2.1 _ _ _ _ _ rfl rfl rfl rfl  _ hW _ hQ
            · replace hF := i_neg b12 hF
              refine en_segs [(80, .iload 5, []), (82, .iconst 1, [])] (by decide +kernel) (y := (83, [some (.ref a0), none, some (.int x2), some (.ref a3), some (.int x4), some (.int x5), some (.int x6), some (.int v4)], [.int 1, .int x5], h)) rfl ?_
              obtain ⟨t13, hX, hK⟩ := ob_some hF
              have j14 : ∀ h : UH, HW (mkw c0 c1 c2 c3 t13.2 c5 c6 c7 c8 c9 c10 c11 c12 c13) d h → Ends (EX D) (u_at kl_38) (169, [some (.ref a0), none, some (.int x2), some (.ref a3), some (.int x4), some (.int t13.1), some (.int x6), some (.int v4)], [], h) QQ := by
                intro h hW
                have hF := hK
                refine en_segs [(169, .iinc 6 1, []), (172, .goto (-166), [6])] (by decide +kernel) (y := (6, [some (.ref a0), none, some (.int x2), some (.ref a3), some (.int x4), some (.int t13.1), some (.int (x6 + 1)), some (.int v4)], [], h)) rfl ?_
                refine en_fg (fg_k (fg_k (fg_k (fg_k (fg_k (fg_k (fg_k (fg_d fg_0)))))))) ?_
                exact (ih _ _ _ _ _ _ hF).1 _ _ _ _ rfl rfl rfl rfl  _ hW _ hQ
              have hF := hX
              refine en_ic_le (by decide +kernel : u_at kl_38 83 = some (.if_icmp .le 86, [169])) (fun b15 => ?_) (fun b15 => ?_)
              · replace hF := i_pos b15 hF
                obtain rfl := Option.some.inj hF
                exact j14 _ hW
              · replace hF := i_neg b15 hF
                refine en_segs [(86, .aload_n 0, [])] (by decide +kernel) (y := (87, [some (.ref a0), none, some (.int x2), some (.ref a3), some (.int x4), some (.int x5), some (.int x6), some (.int v4)], [.ref a0], h)) rfl ?_
                refine en_get (by decide +kernel : u_at kl_38 87 = some (.getfield 11, [4, 3])) hW ha0 (by decide) rfl ?_
                refine en_segs [(90, .iload 5, []), (92, .iconst 2, []), (93, .isub, []), (94, .iload 7, []), (96, .aload_n 0, [])] (by decide +kernel) (y := (97, [some (.ref a0), none, some (.int x2), some (.ref a3), some (.int x4), some (.int x5), some (.int x6), some (.int v4)], [.ref a0, .int v4, .int (x5 - 2), .ref (aP d 4 3 a0)], h)) rfl ?_
                refine en_get (by decide +kernel : u_at kl_38 97 = some (.getfield 11, [4, 3])) hW ha0 (by decide) rfl ?_
                refine en_segs [(100, .iload 5, []), (102, .iconst 2, []), (103, .isub, [])] (by decide +kernel) (y := (104, [some (.ref a0), none, some (.int x2), some (.ref a3), some (.int x4), some (.int x5), some (.int x6), some (.int v4)], [.int (x5 - 2), .ref (aP d 4 3 a0), .int v4, .int (x5 - 2), .ref (aP d 4 3 a0)], h)) rfl ?_
                obtain ⟨v16, hv16, hF⟩ := ob_some hF
                refine en_lald (by decide +kernel : u_at kl_38 104 = some (.laload, [])) hW ha0 rfl (by decide) hv16 ?_
                refine en_segs [(105, .aload_n 0, [])] (by decide +kernel) (y := (106, [some (.ref a0), none, some (.int x2), some (.ref a3), some (.int x4), some (.int x5), some (.int x6), some (.int v4)], [.ref a0, .long v16, .int v4, .int (x5 - 2), .ref (aP d 4 3 a0)], h)) rfl ?_
                refine en_get (by decide +kernel : u_at kl_38 106 = some (.getfield 11, [4, 3])) hW ha0 (by decide) rfl ?_
                refine en_segs [(109, .iload 5, []), (111, .iconst 1, []), (112, .isub, [])] (by decide +kernel) (y := (113, [some (.ref a0), none, some (.int x2), some (.ref a3), some (.int x4), some (.int x5), some (.int x6), some (.int v4)], [.int (x5 - 1), .ref (aP d 4 3 a0), .long v16, .int v4, .int (x5 - 2), .ref (aP d 4 3 a0)], h)) rfl ?_
                obtain ⟨v17, hv17, hF⟩ := ob_some hF
                refine en_lald (by decide +kernel : u_at kl_38 113 = some (.laload, [])) hW ha0 rfl (by decide) hv17 ?_
                obtain ⟨r18, hr18, hF⟩ := ob_some hF
                refine en_sl (r := [.int (x5 - 2), .ref (aP d 4 3 a0)]) (by decide +kernel : u_at kl_38 114 = some (.invokestatic 47, [39, 3])) rfl rfl (Nat.le_of_ble_eq_true rfl) (e_39 (D := D) (by omega) hW hr18) (fun h' q => ?_)
                subst q
                obtain ⟨c4_19, hc4_19, hF⟩ := ob_some hF
                refine en_last (by decide +kernel : u_at kl_38 117 = some (.lastore, [])) hW ha0 rfl (by decide) hc4_19 (fun h hW => ?_)
                have hW : HW (mkw c0 c1 c2 c3 c4_19 c5 c6 c7 c8 c9 c10 c11 c12 c13) d h := hW
                refine en_segs [(118, .iinc 5 (-1), []), (121, .goto 48, [169])] (by decide +kernel) (y := (169, [some (.ref a0), none, some (.int x2), some (.ref a3), some (.int x4), some (.int (x5 + (-1))), some (.int x6), some (.int v4)], [], h)) rfl ?_
                obtain rfl := Option.some.inj hF
                exact j14 _ hW
  · intro x2 x4 x5 x6 x7 e1 e2 e3 e4 h hW QQ hQ
    subst e1 e2 e3 e4
    refine en_segs [(124, .iload 5, []), (126, .aload_n 0, [])] (by decide +kernel) (y := (127, [some (.ref a0), none, some (.int x2), some (.ref a3), some (.int x4), some (.int x5), some (.int x6), some (.int x7)], [.ref a0, .int x5], h)) rfl ?_
    refine en_get (by decide +kernel : u_at kl_38 127 = some (.getfield 11, [4, 3])) hW ha0 (by decide) rfl ?_
    refine en_len (by decide +kernel : u_at kl_38 130 = some (.arraylength, [])) hW ha0 rfl (by decide) (by decide) rfl ?_
    refine en_ic_ge (by decide +kernel : u_at kl_38 131 = some (.if_icmp .ge 38, [169])) (fun b24 => ?_) (fun b24 => ?_)
    · replace hF := i_pos b24 hF
      refine en_segs [(169, .iinc 6 1, []), (172, .goto (-166), [6])] (by decide +kernel) (y := (6, [some (.ref a0), none, some (.int x2), some (.ref a3), some (.int x4), some (.int x5), some (.int (x6 + 1)), some (.int x7)], [], h)) rfl ?_
      refine en_fg (fg_k (fg_k (fg_k (fg_k (fg_k (fg_k (fg_k (fg_d fg_0)))))))) ?_
      exact (ih _ _ _ _ _ _ hF).1 _ _ _ _ rfl rfl rfl rfl  _ hW _ hQ
    · replace hF := i_neg b24 hF
      refine en_segs [(134, .aload_n 0, [])] (by decide +kernel) (y := (135, [some (.ref a0), none, some (.int x2), some (.ref a3), some (.int x4), some (.int x5), some (.int x6), some (.int x7)], [.ref a0], h)) rfl ?_
      refine en_get (by decide +kernel : u_at kl_38 135 = some (.getfield 11, [4, 3])) hW ha0 (by decide) rfl ?_
      refine en_segs [(138, .iload 5, []), (140, .iload 7, []), (142, .bipush 100, [])] (by decide +kernel) (y := (144, [some (.ref a0), none, some (.int x2), some (.ref a3), some (.int x4), some (.int x5), some (.int x6), some (.int x7)], [.int 100, .int x7, .int x5, .ref (aP d 4 3 a0)], h)) rfl ?_
      obtain ⟨t25, hX, hK⟩ := ob_some hF
      have j26 : ∀ h : UH, HW (mkw c0 c1 c2 c3 c4 c5 c6 c7 c8 c9 c10 c11 c12 c13) d h → Ends (EX D) (u_at kl_38) (165, [some (.ref a0), none, some (.int x2), some (.ref a3), some (.int x4), some (.int x5), some (.int x6), some (.int x7)], [.long t25, .int x5, .ref (aP d 4 3 a0)], h) QQ := by
        intro h hW
        have hF := hK
        obtain ⟨c4_27, hc4_27, hF⟩ := ob_some hF
        refine en_last (by decide +kernel : u_at kl_38 165 = some (.lastore, [])) hW ha0 rfl (by decide) hc4_27 (fun h hW => ?_)
        have hW : HW (mkw c0 c1 c2 c3 c4_27 c5 c6 c7 c8 c9 c10 c11 c12 c13) d h := hW
        refine en_segs [(166, .iinc 5 1, []), (169, .iinc 6 1, []), (172, .goto (-166), [6])] (by decide +kernel) (y := (6, [some (.ref a0), none, some (.int x2), some (.ref a3), some (.int x4), some (.int (x5 + 1)), some (.int (x6 + 1)), some (.int x7)], [], h)) rfl ?_
        refine en_fg (fg_k (fg_k (fg_k (fg_k (fg_k (fg_k (fg_k (fg_d fg_0)))))))) ?_
        exact (ih _ _ _ _ _ _ hF).1 _ _ _ _ rfl rfl rfl rfl  _ hW _ hQ
      have hF := hX
      refine en_ic_lt (by decide +kernel : u_at kl_38 144 = some (.if_icmp .lt 12, [156])) (fun b28 => ?_) (fun b28 => ?_)
      · replace hF := i_pos b28 hF
        refine en_segs [(156, .aload_n 3, []), (157, .iload 7, []), (159, .iload 4, [])] (by decide +kernel) (y := (161, [some (.ref a0), none, some (.int x2), some (.ref a3), some (.int x4), some (.int x5), some (.int x6), some (.int x7)], [.int x4, .int x7, .ref a3, .int x5, .ref (aP d 4 3 a0)], h)) rfl ?_
        obtain ⟨r29, hr29, hF⟩ := ob_some hF
        refine en_vi (r := [.int x5, .ref (aP d 4 3 a0)]) (by decide +kernel : u_at kl_38 161 = some (.invokevirtual 51, [106, 2, 8])) hW ha3 rfl rfl (Nat.le_of_ble_eq_true rfl) (e_106 (D := D) (by omega) hW ha3 hr29) (fun h' q => ?_)
        subst q
        refine en_segs [(164, .i2l, [])] (by decide +kernel) (y := (165, [some (.ref a0), none, some (.int x2), some (.ref a3), some (.int x4), some (.int x5), some (.int x6), some (.int x7)], [.long ((r29 : Int32).toInt64), .int x5, .ref (aP d 4 3 a0)], h)) rfl ?_
        obtain rfl := Option.some.inj hF
        exact j26 _ hW
      · replace hF := i_neg b28 hF
        refine en_segs [(147, .iload 7, []), (149, .bipush 100, []), (151, .isub, []), (152, .i2l, []), (153, .goto 12, [165])] (by decide +kernel) (y := (165, [some (.ref a0), none, some (.int x2), some (.ref a3), some (.int x4), some (.int x5), some (.int x6), some (.int x7)], [.long ((x7 - 100 : Int32).toInt64), .int x5, .ref (aP d 4 3 a0)], h)) rfl ?_
        obtain rfl := Option.some.inj hF
        exact j26 _ hW
  · intro x5 e1 e2 e3 e4 h hW QQ hQ
    subst e1 e2 e3 e4
    refine en_segs [(175, .iload 5, [])] (by decide +kernel) (y := (177, [some (.ref a0), none, none, none, none, some (.int x5), none, none], [.int x5], h)) rfl ?_
    obtain ⟨t20, hX, hK⟩ := ob_some hF
    have j21 : ∀ h : UH, HW (mkw c0 c1 c2 c3 c4 c5 c6 c7 c8 c9 c10 c11 c12 c13) d h → Ends (EX D) (u_at kl_38) (193, [some (.ref a0), none, none, none, none, some (.int x5), none, none], [.long t20], h) QQ := by
      intro h hW
      have hF := hK
      obtain rfl := Option.some.inj hF
      exact en_ret (by decide +kernel : u_at kl_38 193 = some (.lreturn, [])) rfl (hQ _ hW)
    have hF := hX
    refine en_if_le (by decide +kernel : u_at kl_38 177 = some (.ifCond .le 15, [192])) (fun b22 => ?_) (fun b22 => ?_)
    · replace hF := i_pos b22 hF
      refine en_segs [(192, .lconst 0, [])] (by decide +kernel) (y := (193, [some (.ref a0), none, none, none, none, some (.int x5), none, none], [.long 0], h)) rfl ?_
      obtain rfl := Option.some.inj hF
      exact j21 _ hW
    · replace hF := i_neg b22 hF
      refine en_segs [(180, .aload_n 0, [])] (by decide +kernel) (y := (181, [some (.ref a0), none, none, none, none, some (.int x5), none, none], [.ref a0], h)) rfl ?_
      refine en_get (by decide +kernel : u_at kl_38 181 = some (.getfield 11, [4, 3])) hW ha0 (by decide) rfl ?_
      refine en_segs [(184, .iload 5, []), (186, .iconst 1, []), (187, .isub, [])] (by decide +kernel) (y := (188, [some (.ref a0), none, none, none, none, some (.int x5), none, none], [.int (x5 - 1), .ref (aP d 4 3 a0)], h)) rfl ?_
      obtain ⟨v23, hv23, hF⟩ := ob_some hF
      refine en_lald (by decide +kernel : u_at kl_38 188 = some (.laload, [])) hW ha0 rfl (by decide) hv23 ?_
      refine en_segs [(189, .goto 4, [193])] (by decide +kernel) (y := (193, [some (.ref a0), none, none, none, none, some (.int x5), none, none], [.long v23], h)) rfl ?_
      obtain rfl := Option.some.inj hF
      exact j21 _ hW
def F_38 (c1 : Cl) (c4 : Cl) (c8 : Cl) (c13 : Cl) (d : Ad) (a0 : Nat) (p1 : Int32) (p2 : Int32) (a3 : Nat) (p4 : Int32) : Option (Int64 × Cl) :=
  G_38 c1 c8 c13 d a0 a3 0 [p2, p4, 0, p1] [] [] c4
set_option maxRecDepth 100000 in
set_option maxHeartbeats 4000000 in
/-- HeadCounts$Rule.valueOf -/
theorem e_38 {D : Nat} {c0 c1 c2 c3 c4 c5 c6 c7 c8 c9 c10 c11 c12 c13 : Cl} {d : Ad} {h : UH} {a0 : Nat} {p1 : Int32} {p2 : Int32} {a3 : Nat} {p4 : Int32} {r : (Int64 × Cl)} (hD : 5 ≤ D) (hW : HW (mkw c0 c1 c2 c3 c4 c5 c6 c7 c8 c9 c10 c11 c12 c13) d h) (ha0 : aK d a0 = (0, 4, 0)) (ha3 : aK d a3 = (0, 8, 0)) (hF : F_38 c1 c4 c8 c13 d a0 p1 p2 a3 p4 = some r) : ∃ q, EX D 38 [.ref a0, .int p1, .int p2, .ref a3, .int p4] h q ∧ q.1 = some (.long r.1) ∧ HW (mkw c0 c1 c2 c3 r.2 c5 c6 c7 c8 c9 c10 c11 c12 c13) d q.2 := by
  obtain ⟨D, rfl⟩ : ∃ E, D = E + 1 := ⟨D - 1, by omega⟩
  unfold F_38 at hF
  refine ex_in (kl := kl_38) (nL := 8) rfl (by decide +kernel) (Nat.le_of_ble_eq_true rfl) ?_
  obtain ⟨QQ, hQQ⟩ : ∃ QQ : UR → Prop, QQ = (fun q : UR => q.1 = some (.long r.1) ∧ HW (mkw c0 c1 c2 c3 r.2 c5 c6 c7 c8 c9 c10 c11 c12 c13) d q.2) := ⟨_, rfl⟩
  rw [← hQQ]
  have hQ : ∀ h' : UH, HW (mkw c0 c1 c2 c3 r.2 c5 c6 c7 c8 c9 c10 c11 c12 c13) d h' → QQ (some (.long r.1), h') := fun h' p => by rw [hQQ]; exact ⟨rfl, p⟩
  clear hQQ
  show Ends (EX D) (u_at kl_38) (0, [some (.ref a0), some (.int p1), some (.int p2), some (.ref a3), some (.int p4), none, none, none], [], h) QQ
  refine en_segs [(0, .iconst 0, []), (1, .istore 5, []), (3, .iload_n 1, []), (4, .istore 6, [])] (by decide +kernel) (y := (6, [some (.ref a0), some (.int p1), some (.int p2), some (.ref a3), some (.int p4), some (.int 0), some (.int p1), none], [], h)) rfl ?_
  refine en_fg (fg_k (fg_d (fg_k (fg_k (fg_k (fg_k (fg_k (fg_k fg_0)))))))) ?_
  exact (g_38 (D := D) hD ha0 ha3 _ _ _ _ _ _ hF).1 _ _ _ _ rfl rfl rfl rfl  _ hW _ hQ
def G_37 (c1 : Cl) (c8 : Cl) (c13 : Cl) (d : Ad) (a0 : Nat) (a1 : Nat) (lab : Nat) (xs : List Int32) (ys : List Int64) (zs : List Nat) (c4 : Cl) : Option (Int32 × Cl) := match lab, xs, ys, zs with
  | 0, [x2, x3, x4], [], [] =>
    if (Int32.ofNat (aN d (cR c4 1 a0))) ≤ x4 then
    some ((-1), c4)
    else
    if (Int32.ofNat (aN d (cR c4 2 a0))) ≤ x4 then
    some ((-1), c4)
    else
    ald (cA c13 0 (cR c4 1 a0)) (aN d (cR c4 1 a0)) x4 >>= fun v5 =>
    ald (cA c13 0 (cR c4 2 a0)) (aN d (cR c4 2 a0)) x4 >>= fun v6 =>
    if v5 = v6 then
    G_37 c1 c8 c13 d a0 a1 1 [x2, x3, v5] [] [] c4
    else
    F_38 c1 c4 c8 c13 d a0 v5 v6 a1 x2 >>= fun r8 =>
    if (lg_cmp r8.1 0) = 0 then
    G_37 c1 c8 c13 d a0 a1 0 [x2, v6, x4 + 1] [] [] r8.2
    else
    G_37 c1 c8 c13 d a0 a1 1 [x2, x3, v5] [] [] r8.2
  | 1, [x2, x3, x5], [], [] =>
    F_38 c1 c4 c8 c13 d a0 x3 x5 a1 x2 >>= fun r10 =>
    ((if (lg_cmp r10.1 0) < 0 then
    some 0
    else
    if 0 ≤ (lg_cmp r10.1 ((cI c1 0 (cR c8 0 a1) : Int32).toInt64)) then
    some 0
    else
    some 1) : Option (Int32)) >>= fun (t11 : Int32) =>
    ((if t11 = 0 then
    some (-1)
    else
    F_91 c1 c8 a1 x2 ((r10.1 : Int64).toInt32) >>= fun r16 =>
    if r16 = 0 then
    some (-1)
    else
    some ((r10.1 : Int64).toInt32)) : Option (Int32)) >>= fun (t13 : Int32) =>
    some (t13, r10.2)
  | _, _, _, _ => none
partial_fixpoint
set_option maxRecDepth 100000 in
set_option maxHeartbeats 4000000 in
theorem g_37 {D : Nat} (hD : 6 ≤ D + 1) {c0 c1 c2 c3 c5 c6 c7 c8 c9 c10 c11 c12 c13 : Cl} {d : Ad} {a0 : Nat} {a1 : Nat} (ha0 : aK d a0 = (0, 4, 0)) (ha1 : aK d a1 = (0, 8, 0)) : ∀ (lab : Nat) (xs : List Int32) (ys : List Int64) (zs : List Nat) (c4 : Cl) (r : (Int32 × Cl)), G_37 c1 c8 c13 d a0 a1 lab xs ys zs c4 = some r →
    (∀ (x2 : Int32) (x3 : Int32) (x4 : Int32), lab = 0 → xs = [x2, x3, x4] → ys = [] → zs = [] → ∀ h : UH, HW (mkw c0 c1 c2 c3 c4 c5 c6 c7 c8 c9 c10 c11 c12 c13) d h → ∀ QQ : UR → Prop, (∀ h' : UH, HW (mkw c0 c1 c2 c3 r.2 c5 c6 c7 c8 c9 c10 c11 c12 c13) d h' → QQ (some (.int r.1), h')) → Ends (EX D) (u_at kl_37) (5, [some (.ref a0), some (.ref a1), some (.int x2), some (.int x3), some (.int x4), none, none, none, none, none], [], h) QQ) ∧
    (∀ (x2 : Int32) (x3 : Int32) (x5 : Int32), lab = 1 → xs = [x2, x3, x5] → ys = [] → zs = [] → ∀ h : UH, HW (mkw c0 c1 c2 c3 c4 c5 c6 c7 c8 c9 c10 c11 c12 c13) d h → ∀ QQ : UR → Prop, (∀ h' : UH, HW (mkw c0 c1 c2 c3 r.2 c5 c6 c7 c8 c9 c10 c11 c12 c13) d h' → QQ (some (.int r.1), h')) → Ends (EX D) (u_at kl_37) (65, [some (.ref a0), some (.ref a1), some (.int x2), some (.int x3), none, some (.int x5), none, none, none, none], [], h) QQ) := by
  refine G_37.partial_correctness _ _ _ _ _ _ (motive := fun lab xs ys zs c4 r =>
    (∀ (x2 : Int32) (x3 : Int32) (x4 : Int32), lab = 0 → xs = [x2, x3, x4] → ys = [] → zs = [] → ∀ h : UH, HW (mkw c0 c1 c2 c3 c4 c5 c6 c7 c8 c9 c10 c11 c12 c13) d h → ∀ QQ : UR → Prop, (∀ h' : UH, HW (mkw c0 c1 c2 c3 r.2 c5 c6 c7 c8 c9 c10 c11 c12 c13) d h' → QQ (some (.int r.1), h')) → Ends (EX D) (u_at kl_37) (5, [some (.ref a0), some (.ref a1), some (.int x2), some (.int x3), some (.int x4), none, none, none, none, none], [], h) QQ) ∧
    (∀ (x2 : Int32) (x3 : Int32) (x5 : Int32), lab = 1 → xs = [x2, x3, x5] → ys = [] → zs = [] → ∀ h : UH, HW (mkw c0 c1 c2 c3 c4 c5 c6 c7 c8 c9 c10 c11 c12 c13) d h → ∀ QQ : UR → Prop, (∀ h' : UH, HW (mkw c0 c1 c2 c3 r.2 c5 c6 c7 c8 c9 c10 c11 c12 c13) d h' → QQ (some (.int r.1), h')) → Ends (EX D) (u_at kl_37) (65, [some (.ref a0), some (.ref a1), some (.int x2), some (.int x3), none, some (.int x5), none, none, none, none], [], h) QQ)) ?_
  intro G ih lab xs ys zs c4 r hF
  refine ⟨?_, ?_⟩
  · intro x2 x3 x4 e1 e2 e3 e4 h hW QQ hQ
    subst e1 e2 e3 e4
    refine en_segs [(5, .iload 4, []), (7, .aload_n 0, [])] (by decide +kernel) (y := (8, [some (.ref a0), some (.ref a1), some (.int x2), some (.int x3), some (.int x4), none, none, none, none, none], [.ref a0, .int x4], h)) rfl ?_
    have k1 : aK d (cR c4 1 a0) = (2, 1, 0) := wf_free hW ha0 (by decide) rfl
    refine en_get (by decide +kernel : u_at kl_37 8 = some (.getfield 21, [4, 1])) hW ha0 (by decide) rfl ?_
    refine en_flen (by decide +kernel : u_at kl_37 11 = some (.arraylength, [])) hW k1 (by decide) ?_
    refine en_ic_ge (by decide +kernel : u_at kl_37 12 = some (.if_icmp .ge 125, [137])) (fun b2 => ?_) (fun b2 => ?_)
    · replace hF := i_pos b2 hF
      refine en_segs [(137, .iconst (-1), [])] (by decide +kernel) (y := (138, [some (.ref a0), some (.ref a1), some (.int x2), some (.int x3), some (.int x4), none, none, none, none, none], [.int (-1)], h)) rfl ?_
      obtain rfl := Option.some.inj hF
      exact en_ret (by decide +kernel : u_at kl_37 138 = some (.ireturn, [0])) rfl (hQ _ hW)
    · replace hF := i_neg b2 hF
      refine en_segs [(15, .iload 4, []), (17, .aload_n 0, [])] (by decide +kernel) (y := (18, [some (.ref a0), some (.ref a1), some (.int x2), some (.int x3), some (.int x4), none, none, none, none, none], [.ref a0, .int x4], h)) rfl ?_
      have k3 : aK d (cR c4 2 a0) = (2, 1, 0) := wf_free hW ha0 (by decide) rfl
      refine en_get (by decide +kernel : u_at kl_37 18 = some (.getfield 24, [4, 2])) hW ha0 (by decide) rfl ?_
      refine en_flen (by decide +kernel : u_at kl_37 21 = some (.arraylength, [])) hW k3 (by decide) ?_
      refine en_ic_ge (by decide +kernel : u_at kl_37 22 = some (.if_icmp .ge 115, [137])) (fun b4 => ?_) (fun b4 => ?_)
      · replace hF := i_pos b4 hF
        refine en_segs [(137, .iconst (-1), [])] (by decide +kernel) (y := (138, [some (.ref a0), some (.ref a1), some (.int x2), some (.int x3), some (.int x4), none, none, none, none, none], [.int (-1)], h)) rfl ?_
        obtain rfl := Option.some.inj hF
        exact en_ret (by decide +kernel : u_at kl_37 138 = some (.ireturn, [0])) rfl (hQ _ hW)
      · replace hF := i_neg b4 hF
        refine en_segs [(25, .aload_n 0, [])] (by decide +kernel) (y := (26, [some (.ref a0), some (.ref a1), some (.int x2), some (.int x3), some (.int x4), none, none, none, none, none], [.ref a0], h)) rfl ?_
        refine en_get (by decide +kernel : u_at kl_37 26 = some (.getfield 21, [4, 1])) hW ha0 (by decide) rfl ?_
        refine en_segs [(29, .iload 4, [])] (by decide +kernel) (y := (31, [some (.ref a0), some (.ref a1), some (.int x2), some (.int x3), some (.int x4), none, none, none, none, none], [.int x4, .ref (cR c4 1 a0)], h)) rfl ?_
        obtain ⟨v5, hv5, hF⟩ := ob_some hF
        refine en_fiald (by decide +kernel : u_at kl_37 31 = some (.iaload, [])) hW k1 hv5 ?_
        refine en_segs [(32, .istore 5, []), (34, .aload_n 0, [])] (by decide +kernel) (y := (35, [some (.ref a0), some (.ref a1), some (.int x2), some (.int x3), some (.int x4), some (.int v5), none, none, none, none], [.ref a0], h)) rfl ?_
        refine en_get (by decide +kernel : u_at kl_37 35 = some (.getfield 24, [4, 2])) hW ha0 (by decide) rfl ?_
        refine en_segs [(38, .iload 4, [])] (by decide +kernel) (y := (40, [some (.ref a0), some (.ref a1), some (.int x2), some (.int x3), some (.int x4), some (.int v5), none, none, none, none], [.int x4, .ref (cR c4 2 a0)], h)) rfl ?_
        obtain ⟨v6, hv6, hF⟩ := ob_some hF
        refine en_fiald (by decide +kernel : u_at kl_37 40 = some (.iaload, [])) hW k3 hv6 ?_
        refine en_segs [(41, .istore 6, []), (43, .iload 5, []), (45, .iload 6, [])] (by decide +kernel) (y := (47, [some (.ref a0), some (.ref a1), some (.int x2), some (.int x3), some (.int x4), some (.int v5), some (.int v6), none, none, none], [.int v6, .int v5], h)) rfl ?_
        refine en_ic_eq (by decide +kernel : u_at kl_37 47 = some (.if_icmp .eq 18, [65])) (fun b7 => ?_) (fun b7 => ?_)
        · replace hF := i_pos b7 hF
          refine en_fg (fg_k (fg_k (fg_k (fg_k (fg_d (fg_k (fg_d (fg_k (fg_k (fg_k fg_0)))))))))) ?_
          exact (ih _ _ _ _ _ _ hF).2 _ _ _ rfl rfl rfl rfl  _ hW _ hQ
        · replace hF := i_neg b7 hF
          refine en_segs [(50, .aload_n 0, []), (51, .iload 5, []), (53, .iload 6, []), (55, .aload_n 1, []), (56, .iload_n 2, [])] (by decide +kernel) (y := (57, [some (.ref a0), some (.ref a1), some (.int x2), some (.int x3), some (.int x4), some (.int v5), some (.int v6), none, none, none], [.int x2, .ref a1, .int v6, .int v5, .ref a0], h)) rfl ?_
          obtain ⟨r8, hr8, hF⟩ := ob_some hF
          refine en_vl (r := []) (by decide +kernel : u_at kl_37 57 = some (.invokevirtual 27, [38, 4, 4])) hW ha0 rfl rfl (Nat.le_of_ble_eq_true rfl) (e_38 (D := D) (by omega) hW ha0 ha1 hr8) (fun h hW => ?_)
          have hW : HW (mkw c0 c1 c2 c3 r8.2 c5 c6 c7 c8 c9 c10 c11 c12 c13) d h := hW
          refine en_segs [(60, .lconst 0, []), (61, .lcmp, [])] (by decide +kernel) (y := (62, [some (.ref a0), some (.ref a1), some (.int x2), some (.int x3), some (.int x4), some (.int v5), some (.int v6), none, none, none], [.int (lg_cmp r8.1 0)], h)) rfl ?_
          refine en_if_eq (by decide +kernel : u_at kl_37 62 = some (.ifCond .eq 66, [128])) (fun b9 => ?_) (fun b9 => ?_)
          · replace hF := i_pos b9 hF
            refine en_segs [(128, .iload 6, []), (130, .istore_n 3, []), (131, .iinc 4 1, []), (134, .goto (-129), [5])] (by decide +kernel) (y := (5, [some (.ref a0), some (.ref a1), some (.int x2), some (.int v6), some (.int (x4 + 1)), some (.int v5), some (.int v6), none, none, none], [], h)) rfl ?_
            refine en_fg (fg_k (fg_k (fg_k (fg_k (fg_k (fg_d (fg_d (fg_k (fg_k (fg_k fg_0)))))))))) ?_
            exact (ih _ _ _ _ _ _ hF).1 _ _ _ rfl rfl rfl rfl  _ hW _ hQ
          · replace hF := i_neg b9 hF
            refine en_fg (fg_k (fg_k (fg_k (fg_k (fg_d (fg_k (fg_d (fg_k (fg_k (fg_k fg_0)))))))))) ?_
            exact (ih _ _ _ _ _ _ hF).2 _ _ _ rfl rfl rfl rfl  _ hW _ hQ
  · intro x2 x3 x5 e1 e2 e3 e4 h hW QQ hQ
    subst e1 e2 e3 e4
    refine en_segs [(65, .aload_n 0, []), (66, .iload_n 3, []), (67, .iload 5, []), (69, .aload_n 1, []), (70, .iload_n 2, [])] (by decide +kernel) (y := (71, [some (.ref a0), some (.ref a1), some (.int x2), some (.int x3), none, some (.int x5), none, none, none, none], [.int x2, .ref a1, .int x5, .int x3, .ref a0], h)) rfl ?_
    obtain ⟨r10, hr10, hF⟩ := ob_some hF
    refine en_vl (r := []) (by decide +kernel : u_at kl_37 71 = some (.invokevirtual 27, [38, 4, 4])) hW ha0 rfl rfl (Nat.le_of_ble_eq_true rfl) (e_38 (D := D) (by omega) hW ha0 ha1 hr10) (fun h hW => ?_)
    have hW : HW (mkw c0 c1 c2 c3 r10.2 c5 c6 c7 c8 c9 c10 c11 c12 c13) d h := hW
    refine en_segs [(74, .lstore 7, []), (76, .lload 7, []), (78, .lconst 0, []), (79, .lcmp, [])] (by decide +kernel) (y := (80, [some (.ref a0), some (.ref a1), some (.int x2), some (.int x3), none, some (.int x5), none, some (.long r10.1), none, none], [.int (lg_cmp r10.1 0)], h)) rfl ?_
    obtain ⟨t11, hX, hK⟩ := ob_some hF
    have j12 : ∀ h : UH, HW (mkw c0 c1 c2 c3 r10.2 c5 c6 c7 c8 c9 c10 c11 c12 c13) d h → Ends (EX D) (u_at kl_37) (102, [some (.ref a0), some (.ref a1), some (.int x2), some (.int x3), none, some (.int x5), none, some (.long r10.1), none, none], [.int t11], h) QQ := by
      intro h hW
      have hF := hK
      refine en_segs [(102, .istore 9, []), (104, .iload 9, [])] (by decide +kernel) (y := (106, [some (.ref a0), some (.ref a1), some (.int x2), some (.int x3), none, some (.int x5), none, some (.long r10.1), none, some (.int t11)], [.int t11], h)) rfl ?_
      obtain ⟨t13, hX, hK⟩ := ob_some hF
      have j14 : ∀ h : UH, HW (mkw c0 c1 c2 c3 r10.2 c5 c6 c7 c8 c9 c10 c11 c12 c13) d h → Ends (EX D) (u_at kl_37) (127, [some (.ref a0), some (.ref a1), some (.int x2), some (.int x3), none, some (.int x5), none, some (.long r10.1), none, some (.int t11)], [.int t13], h) QQ := by
        intro h hW
        have hF := hK
        obtain rfl := Option.some.inj hF
        exact en_ret (by decide +kernel : u_at kl_37 127 = some (.ireturn, [0])) rfl (hQ _ hW)
      have hF := hX
      refine en_if_eq (by decide +kernel : u_at kl_37 106 = some (.ifCond .eq 20, [126])) (fun b15 => ?_) (fun b15 => ?_)
      · replace hF := i_pos b15 hF
        refine en_segs [(126, .iconst (-1), [])] (by decide +kernel) (y := (127, [some (.ref a0), some (.ref a1), some (.int x2), some (.int x3), none, some (.int x5), none, some (.long r10.1), none, some (.int t11)], [.int (-1)], h)) rfl ?_
        obtain rfl := Option.some.inj hF
        exact j14 _ hW
      · replace hF := i_neg b15 hF
        refine en_segs [(109, .aload_n 1, []), (110, .iload_n 2, []), (111, .lload 7, []), (113, .l2i, [])] (by decide +kernel) (y := (114, [some (.ref a0), some (.ref a1), some (.int x2), some (.int x3), none, some (.int x5), none, some (.long r10.1), none, some (.int t11)], [.int ((r10.1 : Int64).toInt32), .int x2, .ref a1], h)) rfl ?_
        obtain ⟨r16, hr16, hF⟩ := ob_some hF
        refine en_vi (r := []) (by decide +kernel : u_at kl_37 114 = some (.invokevirtual 43, [91, 2, 8])) hW ha1 rfl rfl (Nat.le_of_ble_eq_true rfl) (e_91 (D := D) (by omega) hW ha1 hr16) (fun h' q => ?_)
        subst q
        refine en_if_eq (by decide +kernel : u_at kl_37 117 = some (.ifCond .eq 9, [126])) (fun b17 => ?_) (fun b17 => ?_)
        · replace hF := i_pos b17 hF
          refine en_segs [(126, .iconst (-1), [])] (by decide +kernel) (y := (127, [some (.ref a0), some (.ref a1), some (.int x2), some (.int x3), none, some (.int x5), none, some (.long r10.1), none, some (.int t11)], [.int (-1)], h)) rfl ?_
          obtain rfl := Option.some.inj hF
          exact j14 _ hW
        · replace hF := i_neg b17 hF
          refine en_segs [(120, .lload 7, []), (122, .l2i, []), (123, .goto 4, [127])] (by decide +kernel) (y := (127, [some (.ref a0), some (.ref a1), some (.int x2), some (.int x3), none, some (.int x5), none, some (.long r10.1), none, some (.int t11)], [.int ((r10.1 : Int64).toInt32)], h)) rfl ?_
          obtain rfl := Option.some.inj hF
          exact j14 _ hW
    have hF := hX
    refine en_if_lt (by decide +kernel : u_at kl_37 80 = some (.ifCond .lt 21, [101])) (fun b18 => ?_) (fun b18 => ?_)
    · replace hF := i_pos b18 hF
      refine en_segs [(101, .iconst 0, [])] (by decide +kernel) (y := (102, [some (.ref a0), some (.ref a1), some (.int x2), some (.int x3), none, some (.int x5), none, some (.long r10.1), none, none], [.int 0], h)) rfl ?_
      obtain rfl := Option.some.inj hF
      exact j12 _ hW
    · replace hF := i_neg b18 hF
      refine en_segs [(83, .lload 7, []), (85, .aload_n 1, [])] (by decide +kernel) (y := (86, [some (.ref a0), some (.ref a1), some (.int x2), some (.int x3), none, some (.int x5), none, some (.long r10.1), none, none], [.ref a1, .long r10.1], h)) rfl ?_
      have k19 : aK d (cR c8 0 a1) = (0, 1, 0) := wf_obj hW ha1 (by decide) rfl
      refine en_get (by decide +kernel : u_at kl_37 86 = some (.getfield 31, [8, 0])) hW ha1 (by decide) rfl ?_
      refine en_get (by decide +kernel : u_at kl_37 89 = some (.getfield 37, [1, 0])) hW k19 (by decide) rfl ?_
      refine en_segs [(92, .i2l, []), (93, .lcmp, [])] (by decide +kernel) (y := (94, [some (.ref a0), some (.ref a1), some (.int x2), some (.int x3), none, some (.int x5), none, some (.long r10.1), none, none], [.int (lg_cmp r10.1 ((cI c1 0 (cR c8 0 a1) : Int32).toInt64))], h)) rfl ?_
      refine en_if_ge (by decide +kernel : u_at kl_37 94 = some (.ifCond .ge 7, [101])) (fun b20 => ?_) (fun b20 => ?_)
      · replace hF := i_pos b20 hF
        refine en_segs [(101, .iconst 0, [])] (by decide +kernel) (y := (102, [some (.ref a0), some (.ref a1), some (.int x2), some (.int x3), none, some (.int x5), none, some (.long r10.1), none, none], [.int 0], h)) rfl ?_
        obtain rfl := Option.some.inj hF
        exact j12 _ hW
      · replace hF := i_neg b20 hF
        refine en_segs [(97, .iconst 1, []), (98, .goto 4, [102])] (by decide +kernel) (y := (102, [some (.ref a0), some (.ref a1), some (.int x2), some (.int x3), none, some (.int x5), none, some (.long r10.1), none, none], [.int 1], h)) rfl ?_
        obtain rfl := Option.some.inj hF
        exact j12 _ hW
def F_37 (c1 : Cl) (c4 : Cl) (c8 : Cl) (c13 : Cl) (d : Ad) (a0 : Nat) (a1 : Nat) (p2 : Int32) : Option (Int32 × Cl) :=
  G_37 c1 c8 c13 d a0 a1 0 [p2, 0, 0] [] [] c4
set_option maxRecDepth 100000 in
set_option maxHeartbeats 4000000 in
/-- HeadCounts$Rule.roomFor -/
theorem e_37 {D : Nat} {c0 c1 c2 c3 c4 c5 c6 c7 c8 c9 c10 c11 c12 c13 : Cl} {d : Ad} {h : UH} {a0 : Nat} {a1 : Nat} {p2 : Int32} {r : (Int32 × Cl)} (hD : 6 ≤ D) (hW : HW (mkw c0 c1 c2 c3 c4 c5 c6 c7 c8 c9 c10 c11 c12 c13) d h) (ha0 : aK d a0 = (0, 4, 0)) (ha1 : aK d a1 = (0, 8, 0)) (hF : F_37 c1 c4 c8 c13 d a0 a1 p2 = some r) : ∃ q, EX D 37 [.ref a0, .ref a1, .int p2] h q ∧ q.1 = some (.int r.1) ∧ HW (mkw c0 c1 c2 c3 r.2 c5 c6 c7 c8 c9 c10 c11 c12 c13) d q.2 := by
  obtain ⟨D, rfl⟩ : ∃ E, D = E + 1 := ⟨D - 1, by omega⟩
  unfold F_37 at hF
  refine ex_in (kl := kl_37) (nL := 10) rfl (by decide +kernel) (Nat.le_of_ble_eq_true rfl) ?_
  obtain ⟨QQ, hQQ⟩ : ∃ QQ : UR → Prop, QQ = (fun q : UR => q.1 = some (.int r.1) ∧ HW (mkw c0 c1 c2 c3 r.2 c5 c6 c7 c8 c9 c10 c11 c12 c13) d q.2) := ⟨_, rfl⟩
  rw [← hQQ]
  have hQ : ∀ h' : UH, HW (mkw c0 c1 c2 c3 r.2 c5 c6 c7 c8 c9 c10 c11 c12 c13) d h' → QQ (some (.int r.1), h') := fun h' p => by rw [hQQ]; exact ⟨rfl, p⟩
  clear hQQ
  show Ends (EX D) (u_at kl_37) (0, [some (.ref a0), some (.ref a1), some (.int p2), none, none, none, none, none, none, none], [], h) QQ
  refine en_segs [(0, .iconst 0, []), (1, .istore_n 3, []), (2, .iconst 0, []), (3, .istore 4, [])] (by decide +kernel) (y := (5, [some (.ref a0), some (.ref a1), some (.int p2), some (.int 0), some (.int 0), none, none, none, none, none], [], h)) rfl ?_
  exact (g_37 (D := D) hD ha0 ha1 _ _ _ _ _ _ hF).1 _ _ _ rfl rfl rfl rfl  _ hW _ hQ
def F_43 (c5 : Cl) (a0 : Nat) (p1 : Int32) : Option Cl :=
  ((if 400 ≤ (cI c5 2 a0) then
  some c5
  else
  ast c5 1 a0 400 (cI c5 2 a0) p1 >>= fun c5_4 =>
  some (sI c5_4 2 a0 ((cI c5_4 2 a0) + 1)) >>= fun c5_5 =>
  some c5_5) : Option (Cl)) >>= fun (t1 : Cl) =>
  some t1
set_option maxRecDepth 100000 in
set_option maxHeartbeats 4000000 in
/-- HeadCounts$RuleReader.put -/
theorem e_43 {D : Nat} {c0 c1 c2 c3 c4 c5 c6 c7 c8 c9 c10 c11 c12 c13 : Cl} {d : Ad} {h : UH} {a0 : Nat} {p1 : Int32} {r : Cl} (hD : 1 ≤ D) (hW : HW (mkw c0 c1 c2 c3 c4 c5 c6 c7 c8 c9 c10 c11 c12 c13) d h) (ha0 : aK d a0 = (0, 5, 0)) (hF : F_43 c5 a0 p1 = some r) : ∃ q, EX D 43 [.ref a0, .int p1] h q ∧ q.1 = none ∧ HW (mkw c0 c1 c2 c3 c4 r c6 c7 c8 c9 c10 c11 c12 c13) d q.2 := by
  obtain ⟨D, rfl⟩ : ∃ E, D = E + 1 := ⟨D - 1, by omega⟩
  unfold F_43 at hF
  refine ex_in (kl := kl_43) (nL := 2) rfl (by decide +kernel) (Nat.le_of_ble_eq_true rfl) ?_
  obtain ⟨QQ, hQQ⟩ : ∃ QQ : UR → Prop, QQ = (fun q : UR => q.1 = none ∧ HW (mkw c0 c1 c2 c3 c4 r c6 c7 c8 c9 c10 c11 c12 c13) d q.2) := ⟨_, rfl⟩
  rw [← hQQ]
  have hQ : ∀ h' : UH, HW (mkw c0 c1 c2 c3 c4 r c6 c7 c8 c9 c10 c11 c12 c13) d h' → QQ (none, h') := fun h' p => by rw [hQQ]; exact ⟨rfl, p⟩
  clear hQQ
  show Ends (EX D) (u_at kl_43) (0, [some (.ref a0), some (.int p1)], [], h) QQ
  refine en_segs [(0, .aload_n 0, [])] (by decide +kernel) (y := (1, [some (.ref a0), some (.int p1)], [.ref a0], h)) rfl ?_
  refine en_get (by decide +kernel : u_at kl_43 1 = some (.getfield 31, [5, 2])) hW ha0 (by decide) rfl ?_
  refine en_segs [(4, .aload_n 0, [])] (by decide +kernel) (y := (5, [some (.ref a0), some (.int p1)], [.ref a0, .int (cI c5 2 a0)], h)) rfl ?_
  refine en_get (by decide +kernel : u_at kl_43 5 = some (.getfield 9, [5, 1])) hW ha0 (by decide) rfl ?_
  refine en_len (by decide +kernel : u_at kl_43 8 = some (.arraylength, [])) hW ha0 rfl (by decide) (by decide) rfl ?_
  obtain ⟨t1, hX, hK⟩ := ob_some hF
  have j2 : ∀ h : UH, HW (mkw c0 c1 c2 c3 c4 t1 c6 c7 c8 c9 c10 c11 c12 c13) d h → Ends (EX D) (u_at kl_43) (32, [some (.ref a0), some (.int p1)], [], h) QQ := by
    intro h hW
    have hF := hK
    obtain rfl := Option.some.inj hF
    exact en_ret (by decide +kernel : u_at kl_43 32 = some (.return_, [])) rfl (hQ _ hW)
  have hF := hX
  refine en_ic_ge (by decide +kernel : u_at kl_43 9 = some (.if_icmp .ge 23, [32])) (fun b3 => ?_) (fun b3 => ?_)
  · replace hF := i_pos b3 hF
    obtain rfl := Option.some.inj hF
    exact j2 _ hW
  · replace hF := i_neg b3 hF
    refine en_segs [(12, .aload_n 0, [])] (by decide +kernel) (y := (13, [some (.ref a0), some (.int p1)], [.ref a0], h)) rfl ?_
    refine en_get (by decide +kernel : u_at kl_43 13 = some (.getfield 9, [5, 1])) hW ha0 (by decide) rfl ?_
    refine en_segs [(16, .aload_n 0, [])] (by decide +kernel) (y := (17, [some (.ref a0), some (.int p1)], [.ref a0, .ref (aP d 5 1 a0)], h)) rfl ?_
    refine en_get (by decide +kernel : u_at kl_43 17 = some (.getfield 31, [5, 2])) hW ha0 (by decide) rfl ?_
    refine en_segs [(20, .iload_n 1, [])] (by decide +kernel) (y := (21, [some (.ref a0), some (.int p1)], [.int p1, .int (cI c5 2 a0), .ref (aP d 5 1 a0)], h)) rfl ?_
    obtain ⟨c5_4, hc5_4, hF⟩ := ob_some hF
    refine en_iast (by decide +kernel : u_at kl_43 21 = some (.iastore, [])) hW ha0 rfl (by decide) hc5_4 (fun h hW => ?_)
    have hW : HW (mkw c0 c1 c2 c3 c4 c5_4 c6 c7 c8 c9 c10 c11 c12 c13) d h := hW
    refine en_segs [(22, .aload_n 0, []), (23, .dup, [])] (by decide +kernel) (y := (24, [some (.ref a0), some (.int p1)], [.ref a0, .ref a0], h)) rfl ?_
    refine en_get (by decide +kernel : u_at kl_43 24 = some (.getfield 31, [5, 2])) hW ha0 (by decide) rfl ?_
    refine en_segs [(27, .iconst 1, []), (28, .iadd, [])] (by decide +kernel) (y := (29, [some (.ref a0), some (.int p1)], [.int ((cI c5_4 2 a0) + 1), .ref a0], h)) rfl ?_
    obtain ⟨c5_5, hc5_5, hF⟩ := ob_some hF
    refine en_putI (by decide +kernel : u_at kl_43 29 = some (.putfield 31, [5, 2, 0])) hW ha0 rfl (by decide) rfl (fun h hW => ?_)
    have hW : HW (mkw c0 c1 c2 c3 c4 c5_5 c6 c7 c8 c9 c10 c11 c12 c13) d h := by rw [← Option.some.inj hc5_5]; exact hW
    obtain rfl := Option.some.inj hF
    exact j2 _ hW
def G_49 (c3 : Cl) (c5 : Cl) (a0 : Nat) (lab : Nat) (xs : List Int32) (ys : List Int64) (zs : List Nat) : Option (Cl × Cl) := match lab, xs, ys, zs with
  | 0, [x1, x2], [], [] =>
    if (cI c5 3 a0) < 60 then
    some (sI c5 3 a0 ((cI c5 3 a0) + 1)) >>= fun c5_13 =>
    ((if x2 = 0 then
    F_30 c3 (cR c5_13 0 a0) >>= fun r21 =>
    some (100 + r21)
    else
    some x1) : Option (Int32)) >>= fun (t14 : Int32) =>
    F_43 c5_13 a0 t14 >>= fun r16 =>
    F_31 c3 (cR r16 0 a0) >>= fun r18 =>
    some (r18, r16)
    else
    F_28 c3 (cR c5 0 a0) 3 >>= fun r23 =>
    some (r23, c5)
  | _, _, _, _ => none
set_option maxRecDepth 100000 in
set_option maxHeartbeats 4000000 in
theorem g_49 {D : Nat} (hD : 2 ≤ D + 1) {c0 c1 c2 c3 c4 c5 c6 c7 c8 c9 c10 c11 c12 c13 : Cl} {d : Ad} {a0 : Nat} (ha0 : aK d a0 = (0, 5, 0)) : ∀ (lab : Nat) (xs : List Int32) (ys : List Int64) (zs : List Nat) (r : (Cl × Cl)), G_49 c3 c5 a0 lab xs ys zs = some r →
    (∀ (x1 : Int32) (x2 : Int32), lab = 0 → xs = [x1, x2] → ys = [] → zs = [] → ∀ h : UH, HW (mkw c0 c1 c2 c3 c4 c5 c6 c7 c8 c9 c10 c11 c12 c13) d h → ∀ QQ : UR → Prop, (∀ h' : UH, HW (mkw c0 c1 c2 r.1 c4 r.2 c6 c7 c8 c9 c10 c11 c12 c13) d h' → QQ (none, h')) → Ends (EX D) (u_at kl_49) (62, [some (.ref a0), some (.int x1), some (.int x2)], [], h) QQ) := by
  intro lab xs ys zs r hF
  unfold G_49 at hF
  · intro x1 x2 e1 e2 e3 e4 h hW QQ hQ
    subst e1 e2 e3 e4
    refine en_segs [(62, .aload_n 0, [])] (by decide +kernel) (y := (63, [some (.ref a0), some (.int x1), some (.int x2)], [.ref a0], h)) rfl ?_
    refine en_get (by decide +kernel : u_at kl_49 63 = some (.getfield 35, [5, 3])) hW ha0 (by decide) rfl ?_
    refine en_segs [(66, .bipush 60, [])] (by decide +kernel) (y := (68, [some (.ref a0), some (.int x1), some (.int x2)], [.int 60, .int (cI c5 3 a0)], h)) rfl ?_
    refine en_ic_lt (by decide +kernel : u_at kl_49 68 = some (.if_icmp .lt 14, [82])) (fun b12 => ?_) (fun b12 => ?_)
    · replace hF := i_pos b12 hF
      refine en_segs [(82, .aload_n 0, []), (83, .dup, [])] (by decide +kernel) (y := (84, [some (.ref a0), some (.int x1), some (.int x2)], [.ref a0, .ref a0], h)) rfl ?_
      refine en_get (by decide +kernel : u_at kl_49 84 = some (.getfield 35, [5, 3])) hW ha0 (by decide) rfl ?_
      refine en_segs [(87, .iconst 1, []), (88, .iadd, [])] (by decide +kernel) (y := (89, [some (.ref a0), some (.int x1), some (.int x2)], [.int ((cI c5 3 a0) + 1), .ref a0], h)) rfl ?_
      obtain ⟨c5_13, hc5_13, hF⟩ := ob_some hF
      refine en_putI (by decide +kernel : u_at kl_49 89 = some (.putfield 35, [5, 3, 0])) hW ha0 rfl (by decide) rfl (fun h hW => ?_)
      have hW : HW (mkw c0 c1 c2 c3 c4 c5_13 c6 c7 c8 c9 c10 c11 c12 c13) d h := by rw [← Option.some.inj hc5_13]; exact hW
      refine en_segs [(92, .aload_n 0, []), (93, .iload_n 2, [])] (by decide +kernel) (y := (94, [some (.ref a0), some (.int x1), some (.int x2)], [.int x2, .ref a0], h)) rfl ?_
      obtain ⟨t14, hX, hK⟩ := ob_some hF
      have j15 : ∀ h : UH, HW (mkw c0 c1 c2 c3 c4 c5_13 c6 c7 c8 c9 c10 c11 c12 c13) d h → Ends (EX D) (u_at kl_49) (111, [some (.ref a0), some (.int x1), some (.int x2)], [.int t14, .ref a0], h) QQ := by
        intro h hW
        have hF := hK
        obtain ⟨r16, hr16, hF⟩ := ob_some hF
        refine en_vv (r := []) (by decide +kernel : u_at kl_49 111 = some (.invokevirtual 82, [43, 1, 5])) hW ha0 rfl rfl (Nat.le_of_ble_eq_true rfl) (e_43 (D := D) (by omega) hW ha0 hr16) (fun h hW => ?_)
        have hW : HW (mkw c0 c1 c2 c3 c4 r16 c6 c7 c8 c9 c10 c11 c12 c13) d h := hW
        refine en_segs [(114, .aload_n 0, [])] (by decide +kernel) (y := (115, [some (.ref a0), some (.int x1), some (.int x2)], [.ref a0], h)) rfl ?_
        have k17 : aK d (cR r16 0 a0) = (0, 3, 0) := wf_obj hW ha0 (by decide) rfl
        refine en_get (by decide +kernel : u_at kl_49 115 = some (.getfield 21, [5, 0])) hW ha0 (by decide) rfl ?_
        obtain ⟨r18, hr18, hF⟩ := ob_some hF
        refine en_vv (r := []) (by decide +kernel : u_at kl_49 118 = some (.invokevirtual 66, [31, 0, 3])) hW k17 rfl rfl (Nat.le_of_ble_eq_true rfl) (e_31 (D := D) (by omega) hW k17 hr18) (fun h hW => ?_)
        have hW : HW (mkw c0 c1 c2 r18 c4 r16 c6 c7 c8 c9 c10 c11 c12 c13) d h := hW
        obtain rfl := Option.some.inj hF
        exact en_ret (by decide +kernel : u_at kl_49 121 = some (.return_, [])) rfl (hQ _ hW)
      have hF := hX
      refine en_if_eq (by decide +kernel : u_at kl_49 94 = some (.ifCond .eq 7, [101])) (fun b19 => ?_) (fun b19 => ?_)
      · replace hF := i_pos b19 hF
        refine en_segs [(101, .bipush 100, []), (103, .aload_n 0, [])] (by decide +kernel) (y := (104, [some (.ref a0), some (.int x1), some (.int x2)], [.ref a0, .int 100, .ref a0], h)) rfl ?_
        have k20 : aK d (cR c5_13 0 a0) = (0, 3, 0) := wf_obj hW ha0 (by decide) rfl
        refine en_get (by decide +kernel : u_at kl_49 104 = some (.getfield 21, [5, 0])) hW ha0 (by decide) rfl ?_
        obtain ⟨r21, hr21, hF⟩ := ob_some hF
        refine en_vi (r := [.int 100, .ref a0]) (by decide +kernel : u_at kl_49 107 = some (.invokevirtual 95, [30, 0, 3])) hW k20 rfl rfl (Nat.le_of_ble_eq_true rfl) (e_30 (D := D) (by omega) hW k20 hr21) (fun h' q => ?_)
        subst q
        refine en_segs [(110, .iadd, [])] (by decide +kernel) (y := (111, [some (.ref a0), some (.int x1), some (.int x2)], [.int (100 + r21), .ref a0], h)) rfl ?_
        obtain rfl := Option.some.inj hF
        exact j15 _ hW
      · replace hF := i_neg b19 hF
        refine en_segs [(97, .iload_n 1, []), (98, .goto 13, [111])] (by decide +kernel) (y := (111, [some (.ref a0), some (.int x1), some (.int x2)], [.int x1, .ref a0], h)) rfl ?_
        obtain rfl := Option.some.inj hF
        exact j15 _ hW
    · replace hF := i_neg b12 hF
      refine en_segs [(71, .aload_n 0, [])] (by decide +kernel) (y := (72, [some (.ref a0), some (.int x1), some (.int x2)], [.ref a0], h)) rfl ?_
      have k22 : aK d (cR c5 0 a0) = (0, 3, 0) := wf_obj hW ha0 (by decide) rfl
      refine en_get (by decide +kernel : u_at kl_49 72 = some (.getfield 21, [5, 0])) hW ha0 (by decide) rfl ?_
      refine en_segs [(75, .iconst 3, [])] (by decide +kernel) (y := (76, [some (.ref a0), some (.int x1), some (.int x2)], [.int 3, .ref (cR c5 0 a0)], h)) rfl ?_
      obtain ⟨r23, hr23, hF⟩ := ob_some hF
      refine en_vv (r := []) (by decide +kernel : u_at kl_49 76 = some (.invokevirtual 63, [28, 1, 3])) hW k22 rfl rfl (Nat.le_of_ble_eq_true rfl) (e_28 (D := D) (by omega) hW k22 hr23) (fun h hW => ?_)
      have hW : HW (mkw c0 c1 c2 r23 c4 c5 c6 c7 c8 c9 c10 c11 c12 c13) d h := hW
      refine en_segs [(79, .goto 42, [121])] (by decide +kernel) (y := (121, [some (.ref a0), some (.int x1), some (.int x2)], [], h)) rfl ?_
      obtain rfl := Option.some.inj hF
      exact en_ret (by decide +kernel : u_at kl_49 121 = some (.return_, [])) rfl (hQ _ hW)
def F_49 (c3 : Cl) (c5 : Cl) (a0 : Nat) : Option (Cl × Cl) :=
  F_29 c3 (cR c5 0 a0) >>= fun r2 =>
  ((if r2 < 0 then
  some 0
  else
  if 12 ≤ r2 then
  some 0
  else
  some 1) : Option (Int32)) >>= fun (t3 : Int32) =>
  if r2 = 31 then
  F_28 c3 (cR c5 0 a0) 1 >>= fun r6 =>
  some (r6, c5)
  else
  if t3 = 0 then
  if r2 = 30 then
  G_49 c3 c5 a0 0 [r2, t3] [] []
  else
  F_28 c3 (cR c5 0 a0) 0 >>= fun r9 =>
  some (r9, c5)
  else
  G_49 c3 c5 a0 0 [r2, t3] [] []
set_option maxRecDepth 100000 in
set_option maxHeartbeats 4000000 in
/-- HeadCounts$RuleReader.readValue -/
theorem e_49 {D : Nat} {c0 c1 c2 c3 c4 c5 c6 c7 c8 c9 c10 c11 c12 c13 : Cl} {d : Ad} {h : UH} {a0 : Nat} {r : (Cl × Cl)} (hD : 2 ≤ D) (hW : HW (mkw c0 c1 c2 c3 c4 c5 c6 c7 c8 c9 c10 c11 c12 c13) d h) (ha0 : aK d a0 = (0, 5, 0)) (hF : F_49 c3 c5 a0 = some r) : ∃ q, EX D 49 [.ref a0] h q ∧ q.1 = none ∧ HW (mkw c0 c1 c2 r.1 c4 r.2 c6 c7 c8 c9 c10 c11 c12 c13) d q.2 := by
  obtain ⟨D, rfl⟩ : ∃ E, D = E + 1 := ⟨D - 1, by omega⟩
  unfold F_49 at hF
  refine ex_in (kl := kl_49) (nL := 3) rfl (by decide +kernel) (Nat.le_of_ble_eq_true rfl) ?_
  obtain ⟨QQ, hQQ⟩ : ∃ QQ : UR → Prop, QQ = (fun q : UR => q.1 = none ∧ HW (mkw c0 c1 c2 r.1 c4 r.2 c6 c7 c8 c9 c10 c11 c12 c13) d q.2) := ⟨_, rfl⟩
  rw [← hQQ]
  have hQ : ∀ h' : UH, HW (mkw c0 c1 c2 r.1 c4 r.2 c6 c7 c8 c9 c10 c11 c12 c13) d h' → QQ (none, h') := fun h' p => by rw [hQQ]; exact ⟨rfl, p⟩
  clear hQQ
  show Ends (EX D) (u_at kl_49) (0, [some (.ref a0), none, none], [], h) QQ
  refine en_segs [(0, .aload_n 0, [])] (by decide +kernel) (y := (1, [some (.ref a0), none, none], [.ref a0], h)) rfl ?_
  have k1 : aK d (cR c5 0 a0) = (0, 3, 0) := wf_obj hW ha0 (by decide) rfl
  refine en_get (by decide +kernel : u_at kl_49 1 = some (.getfield 21, [5, 0])) hW ha0 (by decide) rfl ?_
  obtain ⟨r2, hr2, hF⟩ := ob_some hF
  refine en_vi (r := []) (by decide +kernel : u_at kl_49 4 = some (.invokevirtual 59, [29, 0, 3])) hW k1 rfl rfl (Nat.le_of_ble_eq_true rfl) (e_29 (D := D) (by omega) hW k1 hr2) (fun h' q => ?_)
  subst q
  refine en_segs [(7, .istore_n 1, []), (8, .iload_n 1, [])] (by decide +kernel) (y := (9, [some (.ref a0), some (.int r2), none], [.int r2], h)) rfl ?_
  obtain ⟨t3, hX, hK⟩ := ob_some hF
  have j4 : ∀ h : UH, HW (mkw c0 c1 c2 c3 c4 c5 c6 c7 c8 c9 c10 c11 c12 c13) d h → Ends (EX D) (u_at kl_49) (23, [some (.ref a0), some (.int r2), none], [.int t3], h) QQ := by
    intro h hW
    have hF := hK
    refine en_segs [(23, .istore_n 2, []), (24, .iload_n 1, []), (25, .bipush 31, [])] (by decide +kernel) (y := (27, [some (.ref a0), some (.int r2), some (.int t3)], [.int 31, .int r2], h)) rfl ?_
    refine en_ic_ne (by decide +kernel : u_at kl_49 27 = some (.if_icmp .ne 14, [41])) (fun b5 => ?_) (fun b5 => ?_)
    · replace hF := i_pos b5 hF
      refine en_segs [(30, .aload_n 0, [])] (by decide +kernel) (y := (31, [some (.ref a0), some (.int r2), some (.int t3)], [.ref a0], h)) rfl ?_
      refine en_get (by decide +kernel : u_at kl_49 31 = some (.getfield 21, [5, 0])) hW ha0 (by decide) rfl ?_
      refine en_segs [(34, .iconst 1, [])] (by decide +kernel) (y := (35, [some (.ref a0), some (.int r2), some (.int t3)], [.int 1, .ref (cR c5 0 a0)], h)) rfl ?_
      obtain ⟨r6, hr6, hF⟩ := ob_some hF
      refine en_vv (r := []) (by decide +kernel : u_at kl_49 35 = some (.invokevirtual 63, [28, 1, 3])) hW k1 rfl rfl (Nat.le_of_ble_eq_true rfl) (e_28 (D := D) (by omega) hW k1 hr6) (fun h hW => ?_)
      have hW : HW (mkw c0 c1 c2 r6 c4 c5 c6 c7 c8 c9 c10 c11 c12 c13) d h := hW
      refine en_segs [(38, .goto 83, [121])] (by decide +kernel) (y := (121, [some (.ref a0), some (.int r2), some (.int t3)], [], h)) rfl ?_
      obtain rfl := Option.some.inj hF
      exact en_ret (by decide +kernel : u_at kl_49 121 = some (.return_, [])) rfl (hQ _ hW)
    · replace hF := i_neg b5 hF
      refine en_segs [(41, .iload_n 2, [])] (by decide +kernel) (y := (42, [some (.ref a0), some (.int r2), some (.int t3)], [.int t3], h)) rfl ?_
      refine en_if_ne (by decide +kernel : u_at kl_49 42 = some (.ifCond .ne 20, [62])) (fun b7 => ?_) (fun b7 => ?_)
      · replace hF := i_pos b7 hF
        refine en_segs [(45, .iload_n 1, []), (46, .bipush 30, [])] (by decide +kernel) (y := (48, [some (.ref a0), some (.int r2), some (.int t3)], [.int 30, .int r2], h)) rfl ?_
        refine en_ic_eq (by decide +kernel : u_at kl_49 48 = some (.if_icmp .eq 14, [62])) (fun b8 => ?_) (fun b8 => ?_)
        · replace hF := i_pos b8 hF
          exact (g_49 (D := D) hD ha0 _ _ _ _ _ hF) _ _ rfl rfl rfl rfl  _ hW _ hQ
        · replace hF := i_neg b8 hF
          refine en_segs [(51, .aload_n 0, [])] (by decide +kernel) (y := (52, [some (.ref a0), some (.int r2), some (.int t3)], [.ref a0], h)) rfl ?_
          refine en_get (by decide +kernel : u_at kl_49 52 = some (.getfield 21, [5, 0])) hW ha0 (by decide) rfl ?_
          refine en_segs [(55, .iconst 0, [])] (by decide +kernel) (y := (56, [some (.ref a0), some (.int r2), some (.int t3)], [.int 0, .ref (cR c5 0 a0)], h)) rfl ?_
          obtain ⟨r9, hr9, hF⟩ := ob_some hF
          refine en_vv (r := []) (by decide +kernel : u_at kl_49 56 = some (.invokevirtual 63, [28, 1, 3])) hW k1 rfl rfl (Nat.le_of_ble_eq_true rfl) (e_28 (D := D) (by omega) hW k1 hr9) (fun h hW => ?_)
          have hW : HW (mkw c0 c1 c2 r9 c4 c5 c6 c7 c8 c9 c10 c11 c12 c13) d h := hW
          refine en_segs [(59, .goto 62, [121])] (by decide +kernel) (y := (121, [some (.ref a0), some (.int r2), some (.int t3)], [], h)) rfl ?_
          obtain rfl := Option.some.inj hF
          exact en_ret (by decide +kernel : u_at kl_49 121 = some (.return_, [])) rfl (hQ _ hW)
      · replace hF := i_neg b7 hF
        exact (g_49 (D := D) hD ha0 _ _ _ _ _ hF) _ _ rfl rfl rfl rfl  _ hW _ hQ
  have hF := hX
  refine en_if_lt (by decide +kernel : u_at kl_49 9 = some (.ifCond .lt 13, [22])) (fun b10 => ?_) (fun b10 => ?_)
  · replace hF := i_pos b10 hF
    refine en_segs [(22, .iconst 0, [])] (by decide +kernel) (y := (23, [some (.ref a0), some (.int r2), none], [.int 0], h)) rfl ?_
    obtain rfl := Option.some.inj hF
    exact j4 _ hW
  · replace hF := i_neg b10 hF
    refine en_segs [(12, .iload_n 1, []), (13, .bipush 12, [])] (by decide +kernel) (y := (15, [some (.ref a0), some (.int r2), none], [.int 12, .int r2], h)) rfl ?_
    refine en_ic_ge (by decide +kernel : u_at kl_49 15 = some (.if_icmp .ge 7, [22])) (fun b11 => ?_) (fun b11 => ?_)
    · replace hF := i_pos b11 hF
      refine en_segs [(22, .iconst 0, [])] (by decide +kernel) (y := (23, [some (.ref a0), some (.int r2), none], [.int 0], h)) rfl ?_
      obtain rfl := Option.some.inj hF
      exact j4 _ hW
    · replace hF := i_neg b11 hF
      refine en_segs [(18, .iconst 1, []), (19, .goto 4, [23])] (by decide +kernel) (y := (23, [some (.ref a0), some (.int r2), none], [.int 1], h)) rfl ?_
      obtain rfl := Option.some.inj hF
      exact j4 _ hW
def G_48 (a0 : Nat) (lab : Nat) (xs : List Int32) (ys : List Int64) (zs : List Nat) (c3 : Cl) (c5 : Cl) : Option (Cl × Cl) := match lab, xs, ys, zs with
  | 0, [x1, x2], [], [] =>
    if 400 ≤ x2 then
    G_48 a0 3 [x1] [] [] c3 c5
    else
    if (cI c3 7 (cR c5 0 a0)) = 0 then
    F_29 c3 (cR c5 0 a0) >>= fun r5 =>
    F_32 c3 (cR c5 0 a0) 142 >>= fun r6 =>
    if r6.1 = 0 then
    F_32 r6.2 (cR c5 0 a0) 147 >>= fun r8 =>
    if r8.1 = 0 then
    F_32 r8.2 (cR c5 0 a0) 143 >>= fun r10 =>
    if r10.1 = 0 then
    F_32 r10.2 (cR c5 0 a0) 145 >>= fun r12 =>
    if r12.1 = 0 then
    G_48 a0 3 [x1] [] [] r12.2 c5
    else
    G_48 a0 2 [x1, x2, r5] [] [] r12.2 c5
    else
    G_48 a0 2 [x1, x2, r5] [] [] r10.2 c5
    else
    G_48 a0 1 [x1, x2, r5] [] [] r8.2 c5
    else
    G_48 a0 1 [x1, x2, r5] [] [] r6.2 c5
    else
    G_48 a0 3 [x1] [] [] c3 c5
  | 1, [x1, x2, x3], [], [] =>
    F_49 c3 c5 a0 >>= fun r26 =>
    ((if x3 = 142 then
    some 22
    else
    some 23) : Option (Int32)) >>= fun (t27 : Int32) =>
    F_43 r26.2 a0 t27 >>= fun r29 =>
    G_48 a0 0 [x1, x2 + 1] [] [] r26.1 r29
  | 2, [x1, x2, x3], [], [] =>
    ((if x1 = (-1) then
    some c5
    else
    F_43 c5 a0 x1 >>= fun r25 =>
    some r25) : Option (Cl)) >>= fun (t18 : Cl) =>
    ((if x3 = 143 then
    some 20
    else
    some 21) : Option (Int32)) >>= fun (t20 : Int32) =>
    F_49 c3 t18 a0 >>= fun r22 =>
    G_48 a0 0 [t20, x2 + 1] [] [] r22.1 r22.2
  | 3, [x1], [], [] =>
    ((if x1 = (-1) then
    some c5
    else
    F_43 c5 a0 x1 >>= fun r17 =>
    some r17) : Option (Cl)) >>= fun (t14 : Cl) =>
    some (c3, t14)
  | _, _, _, _ => none
partial_fixpoint
set_option maxRecDepth 100000 in
set_option maxHeartbeats 4000000 in
theorem g_48 {D : Nat} (hD : 3 ≤ D + 1) {c0 c1 c2 c4 c6 c7 c8 c9 c10 c11 c12 c13 : Cl} {d : Ad} {a0 : Nat} (ha0 : aK d a0 = (0, 5, 0)) : ∀ (lab : Nat) (xs : List Int32) (ys : List Int64) (zs : List Nat) (c3 : Cl) (c5 : Cl) (r : (Cl × Cl)), G_48 a0 lab xs ys zs c3 c5 = some r →
    (∀ (x1 : Int32) (x2 : Int32), lab = 0 → xs = [x1, x2] → ys = [] → zs = [] → ∀ h : UH, HW (mkw c0 c1 c2 c3 c4 c5 c6 c7 c8 c9 c10 c11 c12 c13) d h → ∀ QQ : UR → Prop, (∀ h' : UH, HW (mkw c0 c1 c2 r.1 c4 r.2 c6 c7 c8 c9 c10 c11 c12 c13) d h' → QQ (none, h')) → Ends (EX D) (u_at kl_48) (8, [some (.ref a0), some (.int x1), some (.int x2), none], [], h) QQ) ∧
    (∀ (x1 : Int32) (x2 : Int32) (x3 : Int32), lab = 1 → xs = [x1, x2, x3] → ys = [] → zs = [] → ∀ h : UH, HW (mkw c0 c1 c2 c3 c4 c5 c6 c7 c8 c9 c10 c11 c12 c13) d h → ∀ QQ : UR → Prop, (∀ h' : UH, HW (mkw c0 c1 c2 r.1 c4 r.2 c6 c7 c8 c9 c10 c11 c12 c13) d h' → QQ (none, h')) → Ends (EX D) (u_at kl_48) (59, [some (.ref a0), some (.int x1), some (.int x2), some (.int x3)], [], h) QQ) ∧
    (∀ (x1 : Int32) (x2 : Int32) (x3 : Int32), lab = 2 → xs = [x1, x2, x3] → ys = [] → zs = [] → ∀ h : UH, HW (mkw c0 c1 c2 c3 c4 c5 c6 c7 c8 c9 c10 c11 c12 c13) d h → ∀ QQ : UR → Prop, (∀ h' : UH, HW (mkw c0 c1 c2 r.1 c4 r.2 c6 c7 c8 c9 c10 c11 c12 c13) d h' → QQ (none, h')) → Ends (EX D) (u_at kl_48) (110, [some (.ref a0), some (.int x1), some (.int x2), some (.int x3)], [], h) QQ) ∧
    (∀ (x1 : Int32), lab = 3 → xs = [x1] → ys = [] → zs = [] → ∀ h : UH, HW (mkw c0 c1 c2 c3 c4 c5 c6 c7 c8 c9 c10 c11 c12 c13) d h → ∀ QQ : UR → Prop, (∀ h' : UH, HW (mkw c0 c1 c2 r.1 c4 r.2 c6 c7 c8 c9 c10 c11 c12 c13) d h' → QQ (none, h')) → Ends (EX D) (u_at kl_48) (145, [some (.ref a0), some (.int x1), none, none], [], h) QQ) := by
  refine G_48.partial_correctness _ (motive := fun lab xs ys zs c3 c5 r =>
    (∀ (x1 : Int32) (x2 : Int32), lab = 0 → xs = [x1, x2] → ys = [] → zs = [] → ∀ h : UH, HW (mkw c0 c1 c2 c3 c4 c5 c6 c7 c8 c9 c10 c11 c12 c13) d h → ∀ QQ : UR → Prop, (∀ h' : UH, HW (mkw c0 c1 c2 r.1 c4 r.2 c6 c7 c8 c9 c10 c11 c12 c13) d h' → QQ (none, h')) → Ends (EX D) (u_at kl_48) (8, [some (.ref a0), some (.int x1), some (.int x2), none], [], h) QQ) ∧
    (∀ (x1 : Int32) (x2 : Int32) (x3 : Int32), lab = 1 → xs = [x1, x2, x3] → ys = [] → zs = [] → ∀ h : UH, HW (mkw c0 c1 c2 c3 c4 c5 c6 c7 c8 c9 c10 c11 c12 c13) d h → ∀ QQ : UR → Prop, (∀ h' : UH, HW (mkw c0 c1 c2 r.1 c4 r.2 c6 c7 c8 c9 c10 c11 c12 c13) d h' → QQ (none, h')) → Ends (EX D) (u_at kl_48) (59, [some (.ref a0), some (.int x1), some (.int x2), some (.int x3)], [], h) QQ) ∧
    (∀ (x1 : Int32) (x2 : Int32) (x3 : Int32), lab = 2 → xs = [x1, x2, x3] → ys = [] → zs = [] → ∀ h : UH, HW (mkw c0 c1 c2 c3 c4 c5 c6 c7 c8 c9 c10 c11 c12 c13) d h → ∀ QQ : UR → Prop, (∀ h' : UH, HW (mkw c0 c1 c2 r.1 c4 r.2 c6 c7 c8 c9 c10 c11 c12 c13) d h' → QQ (none, h')) → Ends (EX D) (u_at kl_48) (110, [some (.ref a0), some (.int x1), some (.int x2), some (.int x3)], [], h) QQ) ∧
    (∀ (x1 : Int32), lab = 3 → xs = [x1] → ys = [] → zs = [] → ∀ h : UH, HW (mkw c0 c1 c2 c3 c4 c5 c6 c7 c8 c9 c10 c11 c12 c13) d h → ∀ QQ : UR → Prop, (∀ h' : UH, HW (mkw c0 c1 c2 r.1 c4 r.2 c6 c7 c8 c9 c10 c11 c12 c13) d h' → QQ (none, h')) → Ends (EX D) (u_at kl_48) (145, [some (.ref a0), some (.int x1), none, none], [], h) QQ)) ?_
  intro G ih lab xs ys zs c3 c5 r hF
  refine ⟨?_, ?_, ?_, ?_⟩
  · intro x1 x2 e1 e2 e3 e4 h hW QQ hQ
    subst e1 e2 e3 e4
    refine en_segs [(8, .iload_n 2, []), (9, .sipush 400, [])] (by decide +kernel) (y := (12, [some (.ref a0), some (.int x1), some (.int x2), none], [.int 400, .int x2], h)) rfl ?_
    refine en_ic_ge (by decide +kernel : u_at kl_48 12 = some (.if_icmp .ge 133, [145])) (fun b2 => ?_) (fun b2 => ?_)
    · replace hF := i_pos b2 hF
      refine en_fg (fg_k (fg_k (fg_d (fg_k fg_0)))) ?_
      exact (ih _ _ _ _ _ _ _ hF).2.2.2 _ rfl rfl rfl rfl  _ hW _ hQ
    · replace hF := i_neg b2 hF
      refine en_segs [(15, .aload_n 0, [])] (by decide +kernel) (y := (16, [some (.ref a0), some (.int x1), some (.int x2), none], [.ref a0], h)) rfl ?_
      have k3 : aK d (cR c5 0 a0) = (0, 3, 0) := wf_obj hW ha0 (by decide) rfl
      refine en_get (by decide +kernel : u_at kl_48 16 = some (.getfield 21, [5, 0])) hW ha0 (by decide) rfl ?_
      refine en_get (by decide +kernel : u_at kl_48 19 = some (.getfield 45, [3, 7])) hW k3 (by decide) rfl ?_
      refine en_if_ne (by decide +kernel : u_at kl_48 22 = some (.ifCond .ne 123, [145])) (fun b4 => ?_) (fun b4 => ?_)
      · replace hF := i_pos b4 hF
        refine en_segs [(25, .aload_n 0, [])] (by decide +kernel) (y := (26, [some (.ref a0), some (.int x1), some (.int x2), none], [.ref a0], h)) rfl ?_
        refine en_get (by decide +kernel : u_at kl_48 26 = some (.getfield 21, [5, 0])) hW ha0 (by decide) rfl ?_
        obtain ⟨r5, hr5, hF⟩ := ob_some hF
        refine en_vi (r := []) (by decide +kernel : u_at kl_48 29 = some (.invokevirtual 59, [29, 0, 3])) hW k3 rfl rfl (Nat.le_of_ble_eq_true rfl) (e_29 (D := D) (by omega) hW k3 hr5) (fun h' q => ?_)
        subst q
        refine en_segs [(32, .istore_n 3, []), (33, .aload_n 0, [])] (by decide +kernel) (y := (34, [some (.ref a0), some (.int x1), some (.int x2), some (.int r5)], [.ref a0], h)) rfl ?_
        refine en_get (by decide +kernel : u_at kl_48 34 = some (.getfield 21, [5, 0])) hW ha0 (by decide) rfl ?_
        refine en_segs [(37, .sipush 142, [])] (by decide +kernel) (y := (40, [some (.ref a0), some (.int x1), some (.int x2), some (.int r5)], [.int 142, .ref (cR c5 0 a0)], h)) rfl ?_
        obtain ⟨r6, hr6, hF⟩ := ob_some hF
        refine en_vi (r := []) (by decide +kernel : u_at kl_48 40 = some (.invokevirtual 72, [32, 1, 3])) hW k3 rfl rfl (Nat.le_of_ble_eq_true rfl) (e_32 (D := D) (by omega) hW k3 hr6) (fun h hW => ?_)
        have hW : HW (mkw c0 c1 c2 r6.2 c4 c5 c6 c7 c8 c9 c10 c11 c12 c13) d h := hW
        refine en_if_ne (by decide +kernel : u_at kl_48 43 = some (.ifCond .ne 16, [59])) (fun b7 => ?_) (fun b7 => ?_)
        · replace hF := i_pos b7 hF
          refine en_segs [(46, .aload_n 0, [])] (by decide +kernel) (y := (47, [some (.ref a0), some (.int x1), some (.int x2), some (.int r5)], [.ref a0], h)) rfl ?_
          refine en_get (by decide +kernel : u_at kl_48 47 = some (.getfield 21, [5, 0])) hW ha0 (by decide) rfl ?_
          refine en_segs [(50, .sipush 147, [])] (by decide +kernel) (y := (53, [some (.ref a0), some (.int x1), some (.int x2), some (.int r5)], [.int 147, .ref (cR c5 0 a0)], h)) rfl ?_
          obtain ⟨r8, hr8, hF⟩ := ob_some hF
          refine en_vi (r := []) (by decide +kernel : u_at kl_48 53 = some (.invokevirtual 72, [32, 1, 3])) hW k3 rfl rfl (Nat.le_of_ble_eq_true rfl) (e_32 (D := D) (by omega) hW k3 hr8) (fun h hW => ?_)
          have hW : HW (mkw c0 c1 c2 r8.2 c4 c5 c6 c7 c8 c9 c10 c11 c12 c13) d h := hW
          refine en_if_eq (by decide +kernel : u_at kl_48 56 = some (.ifCond .eq 28, [84])) (fun b9 => ?_) (fun b9 => ?_)
          · replace hF := i_pos b9 hF
            refine en_segs [(84, .aload_n 0, [])] (by decide +kernel) (y := (85, [some (.ref a0), some (.int x1), some (.int x2), some (.int r5)], [.ref a0], h)) rfl ?_
            refine en_get (by decide +kernel : u_at kl_48 85 = some (.getfield 21, [5, 0])) hW ha0 (by decide) rfl ?_
            refine en_segs [(88, .sipush 143, [])] (by decide +kernel) (y := (91, [some (.ref a0), some (.int x1), some (.int x2), some (.int r5)], [.int 143, .ref (cR c5 0 a0)], h)) rfl ?_
            obtain ⟨r10, hr10, hF⟩ := ob_some hF
            refine en_vi (r := []) (by decide +kernel : u_at kl_48 91 = some (.invokevirtual 72, [32, 1, 3])) hW k3 rfl rfl (Nat.le_of_ble_eq_true rfl) (e_32 (D := D) (by omega) hW k3 hr10) (fun h hW => ?_)
            have hW : HW (mkw c0 c1 c2 r10.2 c4 c5 c6 c7 c8 c9 c10 c11 c12 c13) d h := hW
            refine en_if_ne (by decide +kernel : u_at kl_48 94 = some (.ifCond .ne 16, [110])) (fun b11 => ?_) (fun b11 => ?_)
            · replace hF := i_pos b11 hF
              refine en_segs [(97, .aload_n 0, [])] (by decide +kernel) (y := (98, [some (.ref a0), some (.int x1), some (.int x2), some (.int r5)], [.ref a0], h)) rfl ?_
              refine en_get (by decide +kernel : u_at kl_48 98 = some (.getfield 21, [5, 0])) hW ha0 (by decide) rfl ?_
              refine en_segs [(101, .sipush 145, [])] (by decide +kernel) (y := (104, [some (.ref a0), some (.int x1), some (.int x2), some (.int r5)], [.int 145, .ref (cR c5 0 a0)], h)) rfl ?_
              obtain ⟨r12, hr12, hF⟩ := ob_some hF
              refine en_vi (r := []) (by decide +kernel : u_at kl_48 104 = some (.invokevirtual 72, [32, 1, 3])) hW k3 rfl rfl (Nat.le_of_ble_eq_true rfl) (e_32 (D := D) (by omega) hW k3 hr12) (fun h hW => ?_)
              have hW : HW (mkw c0 c1 c2 r12.2 c4 c5 c6 c7 c8 c9 c10 c11 c12 c13) d h := hW
              refine en_if_eq (by decide +kernel : u_at kl_48 107 = some (.ifCond .eq 38, [145])) (fun b13 => ?_) (fun b13 => ?_)
              · replace hF := i_pos b13 hF
                refine en_fg (fg_k (fg_k (fg_d (fg_d fg_0)))) ?_
                exact (ih _ _ _ _ _ _ _ hF).2.2.2 _ rfl rfl rfl rfl  _ hW _ hQ
              · replace hF := i_neg b13 hF
                exact (ih _ _ _ _ _ _ _ hF).2.2.1 _ _ _ rfl rfl rfl rfl  _ hW _ hQ
            · replace hF := i_neg b11 hF
              exact (ih _ _ _ _ _ _ _ hF).2.2.1 _ _ _ rfl rfl rfl rfl  _ hW _ hQ
          · replace hF := i_neg b9 hF
            exact (ih _ _ _ _ _ _ _ hF).2.1 _ _ _ rfl rfl rfl rfl  _ hW _ hQ
        · replace hF := i_neg b7 hF
          exact (ih _ _ _ _ _ _ _ hF).2.1 _ _ _ rfl rfl rfl rfl  _ hW _ hQ
      · replace hF := i_neg b4 hF
        refine en_fg (fg_k (fg_k (fg_d (fg_k fg_0)))) ?_
        exact (ih _ _ _ _ _ _ _ hF).2.2.2 _ rfl rfl rfl rfl  _ hW _ hQ
  · intro x1 x2 x3 e1 e2 e3 e4 h hW QQ hQ
    subst e1 e2 e3 e4
    refine en_segs [(59, .aload_n 0, [])] (by decide +kernel) (y := (60, [some (.ref a0), some (.int x1), some (.int x2), some (.int x3)], [.ref a0], h)) rfl ?_
    obtain ⟨r26, hr26, hF⟩ := ob_some hF
    refine en_vv (r := []) (by decide +kernel : u_at kl_48 60 = some (.invokevirtual 92, [49, 0, 5])) hW ha0 rfl rfl (Nat.le_of_ble_eq_true rfl) (e_49 (D := D) (by omega) hW ha0 hr26) (fun h hW => ?_)
    have hW : HW (mkw c0 c1 c2 r26.1 c4 r26.2 c6 c7 c8 c9 c10 c11 c12 c13) d h := hW
    refine en_segs [(63, .aload_n 0, []), (64, .iload_n 3, []), (65, .sipush 142, [])] (by decide +kernel) (y := (68, [some (.ref a0), some (.int x1), some (.int x2), some (.int x3)], [.int 142, .int x3, .ref a0], h)) rfl ?_
    obtain ⟨t27, hX, hK⟩ := ob_some hF
    have j28 : ∀ h : UH, HW (mkw c0 c1 c2 r26.1 c4 r26.2 c6 c7 c8 c9 c10 c11 c12 c13) d h → Ends (EX D) (u_at kl_48) (78, [some (.ref a0), some (.int x1), some (.int x2), some (.int x3)], [.int t27, .ref a0], h) QQ := by
      intro h hW
      have hF := hK
      obtain ⟨r29, hr29, hF⟩ := ob_some hF
      refine en_vv (r := []) (by decide +kernel : u_at kl_48 78 = some (.invokevirtual 82, [43, 1, 5])) hW ha0 rfl rfl (Nat.le_of_ble_eq_true rfl) (e_43 (D := D) (by omega) hW ha0 hr29) (fun h hW => ?_)
      have hW : HW (mkw c0 c1 c2 r26.1 c4 r29 c6 c7 c8 c9 c10 c11 c12 c13) d h := hW
      refine en_segs [(81, .goto 58, [139]), (139, .iinc 2 1, []), (142, .goto (-134), [8])] (by decide +kernel) (y := (8, [some (.ref a0), some (.int x1), some (.int (x2 + 1)), some (.int x3)], [], h)) rfl ?_
      refine en_fg (fg_k (fg_k (fg_k (fg_d fg_0)))) ?_
      exact (ih _ _ _ _ _ _ _ hF).1 _ _ rfl rfl rfl rfl  _ hW _ hQ
    have hF := hX
    refine en_ic_ne (by decide +kernel : u_at kl_48 68 = some (.if_icmp .ne 8, [76])) (fun b30 => ?_) (fun b30 => ?_)
    · replace hF := i_pos b30 hF
      refine en_segs [(71, .bipush 22, []), (73, .goto 5, [78])] (by decide +kernel) (y := (78, [some (.ref a0), some (.int x1), some (.int x2), some (.int x3)], [.int 22, .ref a0], h)) rfl ?_
      obtain rfl := Option.some.inj hF
      exact j28 _ hW
    · replace hF := i_neg b30 hF
      refine en_segs [(76, .bipush 23, [])] (by decide +kernel) (y := (78, [some (.ref a0), some (.int x1), some (.int x2), some (.int x3)], [.int 23, .ref a0], h)) rfl ?_
      obtain rfl := Option.some.inj hF
      exact j28 _ hW
  · intro x1 x2 x3 e1 e2 e3 e4 h hW QQ hQ
    subst e1 e2 e3 e4
    refine en_segs [(110, .iload_n 1, []), (111, .iconst (-1), [])] (by decide +kernel) (y := (112, [some (.ref a0), some (.int x1), some (.int x2), some (.int x3)], [.int (-1), .int x1], h)) rfl ?_
    obtain ⟨t18, hX, hK⟩ := ob_some hF
    have j19 : ∀ h : UH, HW (mkw c0 c1 c2 c3 c4 t18 c6 c7 c8 c9 c10 c11 c12 c13) d h → Ends (EX D) (u_at kl_48) (120, [some (.ref a0), some (.int x1), some (.int x2), some (.int x3)], [], h) QQ := by
      intro h hW
      have hF := hK
      refine en_segs [(120, .iload_n 3, []), (121, .sipush 143, [])] (by decide +kernel) (y := (124, [some (.ref a0), some (.int x1), some (.int x2), some (.int x3)], [.int 143, .int x3], h)) rfl ?_
      obtain ⟨t20, hX, hK⟩ := ob_some hF
      have j21 : ∀ h : UH, HW (mkw c0 c1 c2 c3 c4 t18 c6 c7 c8 c9 c10 c11 c12 c13) d h → Ends (EX D) (u_at kl_48) (134, [some (.ref a0), some (.int x1), some (.int x2), some (.int x3)], [.int t20], h) QQ := by
        intro h hW
        have hF := hK
        refine en_segs [(134, .istore_n 1, []), (135, .aload_n 0, [])] (by decide +kernel) (y := (136, [some (.ref a0), some (.int t20), some (.int x2), some (.int x3)], [.ref a0], h)) rfl ?_
        obtain ⟨r22, hr22, hF⟩ := ob_some hF
        refine en_vv (r := []) (by decide +kernel : u_at kl_48 136 = some (.invokevirtual 92, [49, 0, 5])) hW ha0 rfl rfl (Nat.le_of_ble_eq_true rfl) (e_49 (D := D) (by omega) hW ha0 hr22) (fun h hW => ?_)
        have hW : HW (mkw c0 c1 c2 r22.1 c4 r22.2 c6 c7 c8 c9 c10 c11 c12 c13) d h := hW
        refine en_segs [(139, .iinc 2 1, []), (142, .goto (-134), [8])] (by decide +kernel) (y := (8, [some (.ref a0), some (.int t20), some (.int (x2 + 1)), some (.int x3)], [], h)) rfl ?_
        refine en_fg (fg_k (fg_k (fg_k (fg_d fg_0)))) ?_
        exact (ih _ _ _ _ _ _ _ hF).1 _ _ rfl rfl rfl rfl  _ hW _ hQ
      have hF := hX
      refine en_ic_ne (by decide +kernel : u_at kl_48 124 = some (.if_icmp .ne 8, [132])) (fun b23 => ?_) (fun b23 => ?_)
      · replace hF := i_pos b23 hF
        refine en_segs [(127, .bipush 20, []), (129, .goto 5, [134])] (by decide +kernel) (y := (134, [some (.ref a0), some (.int x1), some (.int x2), some (.int x3)], [.int 20], h)) rfl ?_
        obtain rfl := Option.some.inj hF
        exact j21 _ hW
      · replace hF := i_neg b23 hF
        refine en_segs [(132, .bipush 21, [])] (by decide +kernel) (y := (134, [some (.ref a0), some (.int x1), some (.int x2), some (.int x3)], [.int 21], h)) rfl ?_
        obtain rfl := Option.some.inj hF
        exact j21 _ hW
    have hF := hX
    refine en_ic_eq (by decide +kernel : u_at kl_48 112 = some (.if_icmp .eq 8, [120])) (fun b24 => ?_) (fun b24 => ?_)
    · replace hF := i_pos b24 hF
      obtain rfl := Option.some.inj hF
      exact j19 _ hW
    · replace hF := i_neg b24 hF
      refine en_segs [(115, .aload_n 0, []), (116, .iload_n 1, [])] (by decide +kernel) (y := (117, [some (.ref a0), some (.int x1), some (.int x2), some (.int x3)], [.int x1, .ref a0], h)) rfl ?_
      obtain ⟨r25, hr25, hF⟩ := ob_some hF
      refine en_vv (r := []) (by decide +kernel : u_at kl_48 117 = some (.invokevirtual 82, [43, 1, 5])) hW ha0 rfl rfl (Nat.le_of_ble_eq_true rfl) (e_43 (D := D) (by omega) hW ha0 hr25) (fun h hW => ?_)
      have hW : HW (mkw c0 c1 c2 c3 c4 r25 c6 c7 c8 c9 c10 c11 c12 c13) d h := hW
      obtain rfl := Option.some.inj hF
      exact j19 _ hW
  · intro x1 e1 e2 e3 e4 h hW QQ hQ
    subst e1 e2 e3 e4
    refine en_segs [(145, .iload_n 1, []), (146, .iconst (-1), [])] (by decide +kernel) (y := (147, [some (.ref a0), some (.int x1), none, none], [.int (-1), .int x1], h)) rfl ?_
    obtain ⟨t14, hX, hK⟩ := ob_some hF
    have j15 : ∀ h : UH, HW (mkw c0 c1 c2 c3 c4 t14 c6 c7 c8 c9 c10 c11 c12 c13) d h → Ends (EX D) (u_at kl_48) (155, [some (.ref a0), some (.int x1), none, none], [], h) QQ := by
      intro h hW
      have hF := hK
      obtain rfl := Option.some.inj hF
      exact en_ret (by decide +kernel : u_at kl_48 155 = some (.return_, [])) rfl (hQ _ hW)
    have hF := hX
    refine en_ic_eq (by decide +kernel : u_at kl_48 147 = some (.if_icmp .eq 8, [155])) (fun b16 => ?_) (fun b16 => ?_)
    · replace hF := i_pos b16 hF
      obtain rfl := Option.some.inj hF
      exact j15 _ hW
    · replace hF := i_neg b16 hF
      refine en_segs [(150, .aload_n 0, []), (151, .iload_n 1, [])] (by decide +kernel) (y := (152, [some (.ref a0), some (.int x1), none, none], [.int x1, .ref a0], h)) rfl ?_
      obtain ⟨r17, hr17, hF⟩ := ob_some hF
      refine en_vv (r := []) (by decide +kernel : u_at kl_48 152 = some (.invokevirtual 82, [43, 1, 5])) hW ha0 rfl rfl (Nat.le_of_ble_eq_true rfl) (e_43 (D := D) (by omega) hW ha0 hr17) (fun h hW => ?_)
      have hW : HW (mkw c0 c1 c2 c3 c4 r17 c6 c7 c8 c9 c10 c11 c12 c13) d h := hW
      obtain rfl := Option.some.inj hF
      exact j15 _ hW
def F_48 (c3 : Cl) (c5 : Cl) (a0 : Nat) : Option (Cl × Cl) :=
  F_49 c3 c5 a0 >>= fun r1 =>
  G_48 a0 0 [(-1), 0] [] [] r1.1 r1.2
set_option maxRecDepth 100000 in
set_option maxHeartbeats 4000000 in
/-- HeadCounts$RuleReader.readSum -/
theorem e_48 {D : Nat} {c0 c1 c2 c3 c4 c5 c6 c7 c8 c9 c10 c11 c12 c13 : Cl} {d : Ad} {h : UH} {a0 : Nat} {r : (Cl × Cl)} (hD : 3 ≤ D) (hW : HW (mkw c0 c1 c2 c3 c4 c5 c6 c7 c8 c9 c10 c11 c12 c13) d h) (ha0 : aK d a0 = (0, 5, 0)) (hF : F_48 c3 c5 a0 = some r) : ∃ q, EX D 48 [.ref a0] h q ∧ q.1 = none ∧ HW (mkw c0 c1 c2 r.1 c4 r.2 c6 c7 c8 c9 c10 c11 c12 c13) d q.2 := by
  obtain ⟨D, rfl⟩ : ∃ E, D = E + 1 := ⟨D - 1, by omega⟩
  unfold F_48 at hF
  refine ex_in (kl := kl_48) (nL := 4) rfl (by decide +kernel) (Nat.le_of_ble_eq_true rfl) ?_
  obtain ⟨QQ, hQQ⟩ : ∃ QQ : UR → Prop, QQ = (fun q : UR => q.1 = none ∧ HW (mkw c0 c1 c2 r.1 c4 r.2 c6 c7 c8 c9 c10 c11 c12 c13) d q.2) := ⟨_, rfl⟩
  rw [← hQQ]
  have hQ : ∀ h' : UH, HW (mkw c0 c1 c2 r.1 c4 r.2 c6 c7 c8 c9 c10 c11 c12 c13) d h' → QQ (none, h') := fun h' p => by rw [hQQ]; exact ⟨rfl, p⟩
  clear hQQ
  show Ends (EX D) (u_at kl_48) (0, [some (.ref a0), none, none, none], [], h) QQ
  refine en_segs [(0, .aload_n 0, [])] (by decide +kernel) (y := (1, [some (.ref a0), none, none, none], [.ref a0], h)) rfl ?_
  obtain ⟨r1, hr1, hF⟩ := ob_some hF
  refine en_vv (r := []) (by decide +kernel : u_at kl_48 1 = some (.invokevirtual 92, [49, 0, 5])) hW ha0 rfl rfl (Nat.le_of_ble_eq_true rfl) (e_49 (D := D) (by omega) hW ha0 hr1) (fun h hW => ?_)
  have hW : HW (mkw c0 c1 c2 r1.1 c4 r1.2 c6 c7 c8 c9 c10 c11 c12 c13) d h := hW
  refine en_segs [(4, .iconst (-1), []), (5, .istore_n 1, []), (6, .iconst 0, []), (7, .istore_n 2, [])] (by decide +kernel) (y := (8, [some (.ref a0), some (.int (-1)), some (.int 0), none], [], h)) rfl ?_
  exact (g_48 (D := D) hD ha0 _ _ _ _ _ _ _ hF).1 _ _ rfl rfl rfl rfl  _ hW _ hQ
def F_47 (p1 : Int32) : Option Int32 :=
  if p1 = 32 then
  some 25
  else
  if p1 = 33 then
  some 27
  else
  if p1 = 160 then
  some 24
  else
  if p1 = 161 then
  some 26
  else
  if p1 = 162 then
  some 28
  else
  some (-1)
set_option maxRecDepth 100000 in
set_option maxHeartbeats 4000000 in
/-- HeadCounts$RuleReader.signOf -/
theorem e_47 {D : Nat} {c0 c1 c2 c3 c4 c5 c6 c7 c8 c9 c10 c11 c12 c13 : Cl} {d : Ad} {h : UH} {p1 : Int32} {r : Int32} (hD : 1 ≤ D) (hW : HW (mkw c0 c1 c2 c3 c4 c5 c6 c7 c8 c9 c10 c11 c12 c13) d h) (hF : F_47 p1 = some r) : ∃ q, EX D 47 [.int p1] h q ∧ q.1 = some (.int r) ∧ h = q.2 := by
  obtain ⟨D, rfl⟩ : ∃ E, D = E + 1 := ⟨D - 1, by omega⟩
  unfold F_47 at hF
  refine ex_in (kl := kl_47) (nL := 1) rfl (by decide +kernel) (Nat.le_of_ble_eq_true rfl) ?_
  obtain ⟨QQ, hQQ⟩ : ∃ QQ : UR → Prop, QQ = (fun q : UR => q.1 = some (.int r) ∧ h = q.2) := ⟨_, rfl⟩
  rw [← hQQ]
  have hQ : QQ (some (.int r), h) := by rw [hQQ]; exact ⟨rfl, rfl⟩
  clear hQQ
  show Ends (EX D) (u_at kl_47) (0, [some (.int p1)], [], h) QQ
  refine en_segs [(0, .iload_n 0, [])] (by decide +kernel) (y := (1, [some (.int p1)], [.int p1], h)) rfl ?_
  by_cases b1 : p1 = 32
  · replace hF := i_pos b1 hF
    refine en_ls (by decide +kernel : u_at kl_47 1 = some (.lookupswitch 66 #[(32, 54), (33, 60), (160, 51), (161, 57), (162, 63)], [])) (u := 55) (by rw [b1]; decide) ?_
    refine en_segs [(55, .bipush 25, [])] (by decide +kernel) (y := (57, [some (.int p1)], [.int 25], h)) rfl ?_
    obtain rfl := Option.some.inj hF
    exact en_ret (by decide +kernel : u_at kl_47 57 = some (.ireturn, [0])) rfl (hQ)
  · replace hF := i_neg b1 hF
    by_cases b2 : p1 = 33
    · replace hF := i_pos b2 hF
      refine en_ls (by decide +kernel : u_at kl_47 1 = some (.lookupswitch 66 #[(32, 54), (33, 60), (160, 51), (161, 57), (162, 63)], [])) (u := 61) (by rw [b2]; decide) ?_
      refine en_segs [(61, .bipush 27, [])] (by decide +kernel) (y := (63, [some (.int p1)], [.int 27], h)) rfl ?_
      obtain rfl := Option.some.inj hF
      exact en_ret (by decide +kernel : u_at kl_47 63 = some (.ireturn, [0])) rfl (hQ)
    · replace hF := i_neg b2 hF
      by_cases b3 : p1 = 160
      · replace hF := i_pos b3 hF
        refine en_ls (by decide +kernel : u_at kl_47 1 = some (.lookupswitch 66 #[(32, 54), (33, 60), (160, 51), (161, 57), (162, 63)], [])) (u := 52) (by rw [b3]; decide) ?_
        refine en_segs [(52, .bipush 24, [])] (by decide +kernel) (y := (54, [some (.int p1)], [.int 24], h)) rfl ?_
        obtain rfl := Option.some.inj hF
        exact en_ret (by decide +kernel : u_at kl_47 54 = some (.ireturn, [0])) rfl (hQ)
      · replace hF := i_neg b3 hF
        by_cases b4 : p1 = 161
        · replace hF := i_pos b4 hF
          refine en_ls (by decide +kernel : u_at kl_47 1 = some (.lookupswitch 66 #[(32, 54), (33, 60), (160, 51), (161, 57), (162, 63)], [])) (u := 58) (by rw [b4]; decide) ?_
          refine en_segs [(58, .bipush 26, [])] (by decide +kernel) (y := (60, [some (.int p1)], [.int 26], h)) rfl ?_
          obtain rfl := Option.some.inj hF
          exact en_ret (by decide +kernel : u_at kl_47 60 = some (.ireturn, [0])) rfl (hQ)
        · replace hF := i_neg b4 hF
          by_cases b5 : p1 = 162
          · replace hF := i_pos b5 hF
            refine en_ls (by decide +kernel : u_at kl_47 1 = some (.lookupswitch 66 #[(32, 54), (33, 60), (160, 51), (161, 57), (162, 63)], [])) (u := 64) (by rw [b5]; decide) ?_
            refine en_segs [(64, .bipush 28, [])] (by decide +kernel) (y := (66, [some (.int p1)], [.int 28], h)) rfl ?_
            obtain rfl := Option.some.inj hF
            exact en_ret (by decide +kernel : u_at kl_47 66 = some (.ireturn, [0])) rfl (hQ)
          · replace hF := i_neg b5 hF
            have wb1 : (p1 : Int32).toInt ≠ 32 := ti_ne b1
            have wb2 : (p1 : Int32).toInt ≠ 33 := ti_ne b2
            have wb3 : (p1 : Int32).toInt ≠ 160 := ti_ne b3
            have wb4 : (p1 : Int32).toInt ≠ 161 := ti_ne b4
            have wb5 : (p1 : Int32).toInt ≠ 162 := ti_ne b5
            refine en_ls (by decide +kernel : u_at kl_47 1 = some (.lookupswitch 66 #[(32, 54), (33, 60), (160, 51), (161, 57), (162, 63)], [])) (u := 67) (by simp [Op.lookupswitch.offset, Ne.symm wb1, Ne.symm wb2, Ne.symm wb3, Ne.symm wb4, Ne.symm wb5]) ?_
            refine en_segs [(67, .iconst (-1), [])] (by decide +kernel) (y := (68, [some (.int p1)], [.int (-1)], h)) rfl ?_
            obtain rfl := Option.some.inj hF
            exact en_ret (by decide +kernel : u_at kl_47 68 = some (.ireturn, [0])) rfl (hQ)
def F_46 (c3 : Cl) (c5 : Cl) (a0 : Nat) : Option (Int32 × Cl × Cl) :=
  F_29 c3 (cR c5 0 a0) >>= fun r2 =>
  F_47 r2 >>= fun r3 =>
  ((if r3 = (-1) then
  F_28 c3 (cR c5 0 a0) 0 >>= fun r7 =>
  some (r7, c5)
  else
  if (cI c5 3 a0) < 60 then
  some (sI c5 3 a0 ((cI c5 3 a0) + 1)) >>= fun c5_9 =>
  F_31 c3 (cR c5_9 0 a0) >>= fun r11 =>
  some (r11, c5_9)
  else
  F_28 c3 (cR c5 0 a0) 3 >>= fun r12 =>
  some (r12, c5)) : Option (Cl × Cl)) >>= fun (t4 : Cl × Cl) =>
  some (r3, t4.1, t4.2)
set_option maxRecDepth 100000 in
set_option maxHeartbeats 4000000 in
/-- HeadCounts$RuleReader.takeSign -/
theorem e_46 {D : Nat} {c0 c1 c2 c3 c4 c5 c6 c7 c8 c9 c10 c11 c12 c13 : Cl} {d : Ad} {h : UH} {a0 : Nat} {r : (Int32 × Cl × Cl)} (hD : 2 ≤ D) (hW : HW (mkw c0 c1 c2 c3 c4 c5 c6 c7 c8 c9 c10 c11 c12 c13) d h) (ha0 : aK d a0 = (0, 5, 0)) (hF : F_46 c3 c5 a0 = some r) : ∃ q, EX D 46 [.ref a0] h q ∧ q.1 = some (.int r.1) ∧ HW (mkw c0 c1 c2 r.2.1 c4 r.2.2 c6 c7 c8 c9 c10 c11 c12 c13) d q.2 := by
  obtain ⟨D, rfl⟩ : ∃ E, D = E + 1 := ⟨D - 1, by omega⟩
  unfold F_46 at hF
  refine ex_in (kl := kl_46) (nL := 2) rfl (by decide +kernel) (Nat.le_of_ble_eq_true rfl) ?_
  obtain ⟨QQ, hQQ⟩ : ∃ QQ : UR → Prop, QQ = (fun q : UR => q.1 = some (.int r.1) ∧ HW (mkw c0 c1 c2 r.2.1 c4 r.2.2 c6 c7 c8 c9 c10 c11 c12 c13) d q.2) := ⟨_, rfl⟩
  rw [← hQQ]
  have hQ : ∀ h' : UH, HW (mkw c0 c1 c2 r.2.1 c4 r.2.2 c6 c7 c8 c9 c10 c11 c12 c13) d h' → QQ (some (.int r.1), h') := fun h' p => by rw [hQQ]; exact ⟨rfl, p⟩
  clear hQQ
  show Ends (EX D) (u_at kl_46) (0, [some (.ref a0), none], [], h) QQ
  refine en_segs [(0, .aload_n 0, [])] (by decide +kernel) (y := (1, [some (.ref a0), none], [.ref a0], h)) rfl ?_
  have k1 : aK d (cR c5 0 a0) = (0, 3, 0) := wf_obj hW ha0 (by decide) rfl
  refine en_get (by decide +kernel : u_at kl_46 1 = some (.getfield 21, [5, 0])) hW ha0 (by decide) rfl ?_
  obtain ⟨r2, hr2, hF⟩ := ob_some hF
  refine en_vi (r := []) (by decide +kernel : u_at kl_46 4 = some (.invokevirtual 59, [29, 0, 3])) hW k1 rfl rfl (Nat.le_of_ble_eq_true rfl) (e_29 (D := D) (by omega) hW k1 hr2) (fun h' q => ?_)
  subst q
  obtain ⟨r3, hr3, hF⟩ := ob_some hF
  refine en_si (r := []) (by decide +kernel : u_at kl_46 7 = some (.invokestatic 88, [47, 1])) rfl rfl (Nat.le_of_ble_eq_true rfl) (e_47 (D := D) (by omega) hW hr3) (fun h' q => ?_)
  subst q
  refine en_segs [(10, .istore_n 1, []), (11, .iload_n 1, []), (12, .iconst (-1), [])] (by decide +kernel) (y := (13, [some (.ref a0), some (.int r3)], [.int (-1), .int r3], h)) rfl ?_
  obtain ⟨t4, hX, hK⟩ := ob_some hF
  have j5 : ∀ h : UH, HW (mkw c0 c1 c2 t4.1 c4 t4.2 c6 c7 c8 c9 c10 c11 c12 c13) d h → Ends (EX D) (u_at kl_46) (64, [some (.ref a0), some (.int r3)], [], h) QQ := by
    intro h hW
    have hF := hK
    refine en_segs [(64, .iload_n 1, [])] (by decide +kernel) (y := (65, [some (.ref a0), some (.int r3)], [.int r3], h)) rfl ?_
    obtain rfl := Option.some.inj hF
    exact en_ret (by decide +kernel : u_at kl_46 65 = some (.ireturn, [0])) rfl (hQ _ hW)
  have hF := hX
  refine en_ic_ne (by decide +kernel : u_at kl_46 13 = some (.if_icmp .ne 14, [27])) (fun b6 => ?_) (fun b6 => ?_)
  · replace hF := i_pos b6 hF
    refine en_segs [(16, .aload_n 0, [])] (by decide +kernel) (y := (17, [some (.ref a0), some (.int r3)], [.ref a0], h)) rfl ?_
    refine en_get (by decide +kernel : u_at kl_46 17 = some (.getfield 21, [5, 0])) hW ha0 (by decide) rfl ?_
    refine en_segs [(20, .iconst 0, [])] (by decide +kernel) (y := (21, [some (.ref a0), some (.int r3)], [.int 0, .ref (cR c5 0 a0)], h)) rfl ?_
    obtain ⟨r7, hr7, hF⟩ := ob_some hF
    refine en_vv (r := []) (by decide +kernel : u_at kl_46 21 = some (.invokevirtual 63, [28, 1, 3])) hW k1 rfl rfl (Nat.le_of_ble_eq_true rfl) (e_28 (D := D) (by omega) hW k1 hr7) (fun h hW => ?_)
    have hW : HW (mkw c0 c1 c2 r7 c4 c5 c6 c7 c8 c9 c10 c11 c12 c13) d h := hW
    refine en_segs [(24, .goto 40, [64])] (by decide +kernel) (y := (64, [some (.ref a0), some (.int r3)], [], h)) rfl ?_
    obtain rfl := Option.some.inj hF
    exact j5 _ hW
  · replace hF := i_neg b6 hF
    refine en_segs [(27, .aload_n 0, [])] (by decide +kernel) (y := (28, [some (.ref a0), some (.int r3)], [.ref a0], h)) rfl ?_
    refine en_get (by decide +kernel : u_at kl_46 28 = some (.getfield 35, [5, 3])) hW ha0 (by decide) rfl ?_
    refine en_segs [(31, .bipush 60, [])] (by decide +kernel) (y := (33, [some (.ref a0), some (.int r3)], [.int 60, .int (cI c5 3 a0)], h)) rfl ?_
    refine en_ic_lt (by decide +kernel : u_at kl_46 33 = some (.if_icmp .lt 14, [47])) (fun b8 => ?_) (fun b8 => ?_)
    · replace hF := i_pos b8 hF
      refine en_segs [(47, .aload_n 0, []), (48, .dup, [])] (by decide +kernel) (y := (49, [some (.ref a0), some (.int r3)], [.ref a0, .ref a0], h)) rfl ?_
      refine en_get (by decide +kernel : u_at kl_46 49 = some (.getfield 35, [5, 3])) hW ha0 (by decide) rfl ?_
      refine en_segs [(52, .iconst 1, []), (53, .iadd, [])] (by decide +kernel) (y := (54, [some (.ref a0), some (.int r3)], [.int ((cI c5 3 a0) + 1), .ref a0], h)) rfl ?_
      obtain ⟨c5_9, hc5_9, hF⟩ := ob_some hF
      refine en_putI (by decide +kernel : u_at kl_46 54 = some (.putfield 35, [5, 3, 0])) hW ha0 rfl (by decide) rfl (fun h hW => ?_)
      have hW : HW (mkw c0 c1 c2 c3 c4 c5_9 c6 c7 c8 c9 c10 c11 c12 c13) d h := by rw [← Option.some.inj hc5_9]; exact hW
      refine en_segs [(57, .aload_n 0, [])] (by decide +kernel) (y := (58, [some (.ref a0), some (.int r3)], [.ref a0], h)) rfl ?_
      have k10 : aK d (cR c5_9 0 a0) = (0, 3, 0) := wf_obj hW ha0 (by decide) rfl
      refine en_get (by decide +kernel : u_at kl_46 58 = some (.getfield 21, [5, 0])) hW ha0 (by decide) rfl ?_
      obtain ⟨r11, hr11, hF⟩ := ob_some hF
      refine en_vv (r := []) (by decide +kernel : u_at kl_46 61 = some (.invokevirtual 66, [31, 0, 3])) hW k10 rfl rfl (Nat.le_of_ble_eq_true rfl) (e_31 (D := D) (by omega) hW k10 hr11) (fun h hW => ?_)
      have hW : HW (mkw c0 c1 c2 r11 c4 c5_9 c6 c7 c8 c9 c10 c11 c12 c13) d h := hW
      obtain rfl := Option.some.inj hF
      exact j5 _ hW
    · replace hF := i_neg b8 hF
      refine en_segs [(36, .aload_n 0, [])] (by decide +kernel) (y := (37, [some (.ref a0), some (.int r3)], [.ref a0], h)) rfl ?_
      refine en_get (by decide +kernel : u_at kl_46 37 = some (.getfield 21, [5, 0])) hW ha0 (by decide) rfl ?_
      refine en_segs [(40, .iconst 3, [])] (by decide +kernel) (y := (41, [some (.ref a0), some (.int r3)], [.int 3, .ref (cR c5 0 a0)], h)) rfl ?_
      obtain ⟨r12, hr12, hF⟩ := ob_some hF
      refine en_vv (r := []) (by decide +kernel : u_at kl_46 41 = some (.invokevirtual 63, [28, 1, 3])) hW k1 rfl rfl (Nat.le_of_ble_eq_true rfl) (e_28 (D := D) (by omega) hW k1 hr12) (fun h hW => ?_)
      have hW : HW (mkw c0 c1 c2 r12 c4 c5 c6 c7 c8 c9 c10 c11 c12 c13) d h := hW
      refine en_segs [(44, .goto 20, [64])] (by decide +kernel) (y := (64, [some (.ref a0), some (.int r3)], [], h)) rfl ?_
      obtain rfl := Option.some.inj hF
      exact j5 _ hW
def F_54 (c6 : Cl) (c13 : Cl) (d : Ad) (a0 : Nat) : Option (Cl × Cl × Ad) :=
  ((if (cI c6 2 a0) ≤ (Int32.ofNat (aN d (cR c6 13 a0))) then
  some (c6, c13, d)
  else
  nwL c13 d (cI c6 2 a0) >>= fun n7 =>
  some (sR c6 13 a0 (aX d)) >>= fun c6_11 =>
  nwI n7.1 n7.2 (cI c6_11 2 a0) >>= fun n12 =>
  some (sR c6_11 15 a0 (aX n7.2)) >>= fun c6_17 =>
  some (c6_17, n12.1, n12.2)) : Option (Cl × Cl × Ad)) >>= fun (t2 : Cl × Cl × Ad) =>
  some (t2.1, t2.2.1, t2.2.2)
set_option maxRecDepth 100000 in
set_option maxHeartbeats 4000000 in
/-- HeadCounts$Scene.makeNextRows -/
theorem e_54 {D : Nat} {c0 c1 c2 c3 c4 c5 c6 c7 c8 c9 c10 c11 c12 c13 : Cl} {d : Ad} {h : UH} {a0 : Nat} {r : (Cl × Cl × Ad)} (hD : 1 ≤ D) (hW : HW (mkw c0 c1 c2 c3 c4 c5 c6 c7 c8 c9 c10 c11 c12 c13) d h) (ha0 : aK d a0 = (0, 6, 0)) (hF : F_54 c6 c13 d a0 = some r) : ∃ q, EX D 54 [.ref a0] h q ∧ q.1 = none ∧ HX d (mkw c0 c1 c2 c3 c4 c5 r.1 c7 c8 c9 c10 c11 c12 r.2.1) r.2.2 q.2 := by
  obtain ⟨D, rfl⟩ : ∃ E, D = E + 1 := ⟨D - 1, by omega⟩
  unfold F_54 at hF
  refine ex_in (kl := kl_54) (nL := 1) rfl (by decide +kernel) (Nat.le_of_ble_eq_true rfl) ?_
  obtain ⟨QQ, hQQ⟩ : ∃ QQ : UR → Prop, QQ = (fun q : UR => q.1 = none ∧ HX d (mkw c0 c1 c2 c3 c4 c5 r.1 c7 c8 c9 c10 c11 c12 r.2.1) r.2.2 q.2) := ⟨_, rfl⟩
  rw [← hQQ]
  have hQ : ∀ h' : UH, HX d (mkw c0 c1 c2 c3 c4 c5 r.1 c7 c8 c9 c10 c11 c12 r.2.1) r.2.2 h' → QQ (none, h') := fun h' p => by rw [hQQ]; exact ⟨rfl, p⟩
  clear hQQ
  show Ends (EX D) (u_at kl_54) (0, [some (.ref a0)], [], h) QQ
  refine en_segs [(0, .aload_n 0, [])] (by decide +kernel) (y := (1, [some (.ref a0)], [.ref a0], h)) rfl ?_
  have k1 : aK d (cR c6 13 a0) = (2, 2, 0) := wf_free hW ha0 (by decide) rfl
  refine en_get (by decide +kernel : u_at kl_54 1 = some (.getfield 40, [6, 13])) hW ha0 (by decide) rfl ?_
  refine en_flen (by decide +kernel : u_at kl_54 4 = some (.arraylength, [])) hW k1 (by decide) ?_
  refine en_segs [(5, .aload_n 0, [])] (by decide +kernel) (y := (6, [some (.ref a0)], [.ref a0, .int (Int32.ofNat (aN d (cR c6 13 a0)))], h)) rfl ?_
  refine en_get (by decide +kernel : u_at kl_54 6 = some (.getfield 84, [6, 2])) hW ha0 (by decide) rfl ?_
  obtain ⟨t2, hX, hK⟩ := ob_some hF
  have j3 : ∀ h : UH, HW (mkw c0 c1 c2 c3 c4 c5 t2.1 c7 c8 c9 c10 c11 c12 t2.2.1) t2.2.2 h → Adx d t2.2.2 → Ends (EX D) (u_at kl_54) (32, [some (.ref a0)], [], h) QQ := by
    intro h hW hX0
    have ha0 := hX0.o ha0
    have k1 := hX0.f k1
    have A4 := hX0
    have A5 := hX0
    have hF := hK
    obtain rfl := Option.some.inj hF
    exact en_ret (by decide +kernel : u_at kl_54 32 = some (.return_, [])) rfl (hQ _ ⟨hW, A4⟩)
  have hF := hX
  refine en_ic_ge (by decide +kernel : u_at kl_54 9 = some (.if_icmp .ge 23, [32])) (fun b6 => ?_) (fun b6 => ?_)
  · replace hF := i_pos b6 hF
    obtain rfl := Option.some.inj hF
    exact j3 _ hW Adx.rf
  · replace hF := i_neg b6 hF
    refine en_segs [(12, .aload_n 0, []), (13, .aload_n 0, [])] (by decide +kernel) (y := (14, [some (.ref a0)], [.ref a0, .ref a0], h)) rfl ?_
    refine en_get (by decide +kernel : u_at kl_54 14 = some (.getfield 84, [6, 2])) hW ha0 (by decide) rfl ?_
    obtain ⟨n7, hn7, hF⟩ := ob_some hF
    refine en_newL (by decide +kernel : u_at kl_54 17 = some (.newarray .long, [2])) hW hn7 (fun h hW X8 k9 => ?_)
    have ha0 := X8.o ha0
    have k1 := X8.f k1
    have A10 := X8
    have hW : HW (mkw c0 c1 c2 c3 c4 c5 c6 c7 c8 c9 c10 c11 c12 n7.1) n7.2 h := hW
    obtain ⟨c6_11, hc6_11, hF⟩ := ob_some hF
    refine en_putF (by decide +kernel : u_at kl_54 19 = some (.putfield 40, [6, 13, 3])) hW ha0 rfl (by decide) k9 rfl (fun h hW => ?_)
    have hW : HW (mkw c0 c1 c2 c3 c4 c5 c6_11 c7 c8 c9 c10 c11 c12 n7.1) n7.2 h := by rw [← Option.some.inj hc6_11]; exact hW
    refine en_segs [(22, .aload_n 0, []), (23, .aload_n 0, [])] (by decide +kernel) (y := (24, [some (.ref a0)], [.ref a0, .ref a0], h)) rfl ?_
    refine en_get (by decide +kernel : u_at kl_54 24 = some (.getfield 84, [6, 2])) hW ha0 (by decide) rfl ?_
    obtain ⟨n12, hn12, hF⟩ := ob_some hF
    refine en_newI (by decide +kernel : u_at kl_54 27 = some (.newarray .int, [1])) hW hn12 (fun h hW X13 k14 => ?_)
    have ha0 := X13.o ha0
    have k1 := X13.f k1
    have k9 := X13.f k9
    have A15 := A10.trans X13
    have A16 := A10.trans X13
    have hW : HW (mkw c0 c1 c2 c3 c4 c5 c6_11 c7 c8 c9 c10 c11 c12 n12.1) n12.2 h := hW
    obtain ⟨c6_17, hc6_17, hF⟩ := ob_some hF
    refine en_putF (by decide +kernel : u_at kl_54 29 = some (.putfield 46, [6, 15, 3])) hW ha0 rfl (by decide) k14 rfl (fun h hW => ?_)
    have hW : HW (mkw c0 c1 c2 c3 c4 c5 c6_17 c7 c8 c9 c10 c11 c12 n12.1) n12.2 h := by rw [← Option.some.inj hc6_17]; exact hW
    obtain rfl := Option.some.inj hF
    exact j3 _ hW A16
def F_55 (c6 : Cl) (a0 : Nat) : Option Cl :=
  some (sR c6 12 a0 (cR c6 13 a0)) >>= fun c6_3 =>
  some (sR c6_3 13 a0 (cR c6 12 a0)) >>= fun c6_4 =>
  some (sR c6_4 14 a0 (cR c6_4 15 a0)) >>= fun c6_7 =>
  some (sR c6_7 15 a0 (cR c6_4 14 a0)) >>= fun c6_8 =>
  some c6_8
set_option maxRecDepth 100000 in
set_option maxHeartbeats 4000000 in
/-- HeadCounts$Scene.turnRows -/
theorem e_55 {D : Nat} {c0 c1 c2 c3 c4 c5 c6 c7 c8 c9 c10 c11 c12 c13 : Cl} {d : Ad} {h : UH} {a0 : Nat} {r : Cl} (hD : 1 ≤ D) (hW : HW (mkw c0 c1 c2 c3 c4 c5 c6 c7 c8 c9 c10 c11 c12 c13) d h) (ha0 : aK d a0 = (0, 6, 0)) (hF : F_55 c6 a0 = some r) : ∃ q, EX D 55 [.ref a0] h q ∧ q.1 = none ∧ HW (mkw c0 c1 c2 c3 c4 c5 r c7 c8 c9 c10 c11 c12 c13) d q.2 := by
  obtain ⟨D, rfl⟩ : ∃ E, D = E + 1 := ⟨D - 1, by omega⟩
  unfold F_55 at hF
  refine ex_in (kl := kl_55) (nL := 3) rfl (by decide +kernel) (Nat.le_of_ble_eq_true rfl) ?_
  obtain ⟨QQ, hQQ⟩ : ∃ QQ : UR → Prop, QQ = (fun q : UR => q.1 = none ∧ HW (mkw c0 c1 c2 c3 c4 c5 r c7 c8 c9 c10 c11 c12 c13) d q.2) := ⟨_, rfl⟩
  rw [← hQQ]
  have hQ : ∀ h' : UH, HW (mkw c0 c1 c2 c3 c4 c5 r c7 c8 c9 c10 c11 c12 c13) d h' → QQ (none, h') := fun h' p => by rw [hQQ]; exact ⟨rfl, p⟩
  clear hQQ
  show Ends (EX D) (u_at kl_55) (0, [some (.ref a0), none, none], [], h) QQ
  refine en_segs [(0, .aload_n 0, [])] (by decide +kernel) (y := (1, [some (.ref a0), none, none], [.ref a0], h)) rfl ?_
  have k1 : aK d (cR c6 12 a0) = (2, 2, 0) := wf_free hW ha0 (by decide) rfl
  refine en_get (by decide +kernel : u_at kl_55 1 = some (.getfield 37, [6, 12])) hW ha0 (by decide) rfl ?_
  refine en_segs [(4, .astore_n 1, []), (5, .aload_n 0, []), (6, .aload_n 0, [])] (by decide +kernel) (y := (7, [some (.ref a0), some (.ref (cR c6 12 a0)), none], [.ref a0, .ref a0], h)) rfl ?_
  have k2 : aK d (cR c6 13 a0) = (2, 2, 0) := wf_free hW ha0 (by decide) rfl
  refine en_get (by decide +kernel : u_at kl_55 7 = some (.getfield 40, [6, 13])) hW ha0 (by decide) rfl ?_
  obtain ⟨c6_3, hc6_3, hF⟩ := ob_some hF
  refine en_putF (by decide +kernel : u_at kl_55 10 = some (.putfield 37, [6, 12, 3])) hW ha0 rfl (by decide) k2 rfl (fun h hW => ?_)
  have hW : HW (mkw c0 c1 c2 c3 c4 c5 c6_3 c7 c8 c9 c10 c11 c12 c13) d h := by rw [← Option.some.inj hc6_3]; exact hW
  refine en_segs [(13, .aload_n 0, []), (14, .aload_n 1, [])] (by decide +kernel) (y := (15, [some (.ref a0), some (.ref (cR c6 12 a0)), none], [.ref (cR c6 12 a0), .ref a0], h)) rfl ?_
  obtain ⟨c6_4, hc6_4, hF⟩ := ob_some hF
  refine en_putF (by decide +kernel : u_at kl_55 15 = some (.putfield 40, [6, 13, 3])) hW ha0 rfl (by decide) k1 rfl (fun h hW => ?_)
  have hW : HW (mkw c0 c1 c2 c3 c4 c5 c6_4 c7 c8 c9 c10 c11 c12 c13) d h := by rw [← Option.some.inj hc6_4]; exact hW
  refine en_segs [(18, .aload_n 0, [])] (by decide +kernel) (y := (19, [some (.ref a0), some (.ref (cR c6 12 a0)), none], [.ref a0], h)) rfl ?_
  have k5 : aK d (cR c6_4 14 a0) = (2, 1, 0) := wf_free hW ha0 (by decide) rfl
  refine en_get (by decide +kernel : u_at kl_55 19 = some (.getfield 43, [6, 14])) hW ha0 (by decide) rfl ?_
  refine en_segs [(22, .astore_n 2, []), (23, .aload_n 0, []), (24, .aload_n 0, [])] (by decide +kernel) (y := (25, [some (.ref a0), some (.ref (cR c6 12 a0)), some (.ref (cR c6_4 14 a0))], [.ref a0, .ref a0], h)) rfl ?_
  have k6 : aK d (cR c6_4 15 a0) = (2, 1, 0) := wf_free hW ha0 (by decide) rfl
  refine en_get (by decide +kernel : u_at kl_55 25 = some (.getfield 46, [6, 15])) hW ha0 (by decide) rfl ?_
  obtain ⟨c6_7, hc6_7, hF⟩ := ob_some hF
  refine en_putF (by decide +kernel : u_at kl_55 28 = some (.putfield 43, [6, 14, 3])) hW ha0 rfl (by decide) k6 rfl (fun h hW => ?_)
  have hW : HW (mkw c0 c1 c2 c3 c4 c5 c6_7 c7 c8 c9 c10 c11 c12 c13) d h := by rw [← Option.some.inj hc6_7]; exact hW
  refine en_segs [(31, .aload_n 0, []), (32, .aload_n 2, [])] (by decide +kernel) (y := (33, [some (.ref a0), some (.ref (cR c6 12 a0)), some (.ref (cR c6_4 14 a0))], [.ref (cR c6_4 14 a0), .ref a0], h)) rfl ?_
  obtain ⟨c6_8, hc6_8, hF⟩ := ob_some hF
  refine en_putF (by decide +kernel : u_at kl_55 33 = some (.putfield 46, [6, 15, 3])) hW ha0 rfl (by decide) k5 rfl (fun h hW => ?_)
  have hW : HW (mkw c0 c1 c2 c3 c4 c5 c6_8 c7 c8 c9 c10 c11 c12 c13) d h := by rw [← Option.some.inj hc6_8]; exact hW
  obtain rfl := Option.some.inj hF
  exact en_ret (by decide +kernel : u_at kl_55 36 = some (.return_, [])) rfl (hQ _ hW)
def F_60 (c6 : Cl) (a0 : Nat) (p1 : Int32) (p2 : Int32) : Option Int32 :=
  ald (cA c6 10 a0) 6 p1 >>= fun v1 =>
  ald (cA c6 8 a0) 6 v1 >>= fun v2 =>
  ((if ((v2 >>> (p2 &&& 31)) &&& 1) = 1 then
  ald (cA c6 11 a0) 6 p2 >>= fun v7 =>
  ald (cA c6 5 a0) 6 p1 >>= fun v8 =>
  ald (cA c6 7 a0) 6 p2 >>= fun v9 =>
  if v9 < (v7 + v8) then
  some 0
  else
  some 1
  else
  some 0) : Option (Int32)) >>= fun (t3 : Int32) =>
  zb t3 >>= fun z5 => some z5
set_option maxRecDepth 100000 in
set_option maxHeartbeats 4000000 in
/-- HeadCounts$Scene.canCross -/
theorem e_60 {D : Nat} {c0 c1 c2 c3 c4 c5 c6 c7 c8 c9 c10 c11 c12 c13 : Cl} {d : Ad} {h : UH} {a0 : Nat} {p1 : Int32} {p2 : Int32} {r : Int32} (hD : 1 ≤ D) (hW : HW (mkw c0 c1 c2 c3 c4 c5 c6 c7 c8 c9 c10 c11 c12 c13) d h) (ha0 : aK d a0 = (0, 6, 0)) (hF : F_60 c6 a0 p1 p2 = some r) : ∃ q, EX D 60 [.ref a0, .int p1, .int p2] h q ∧ q.1 = some (.int r) ∧ h = q.2 := by
  obtain ⟨D, rfl⟩ : ∃ E, D = E + 1 := ⟨D - 1, by omega⟩
  unfold F_60 at hF
  refine ex_in (kl := kl_60) (nL := 3) rfl (by decide +kernel) (Nat.le_of_ble_eq_true rfl) ?_
  obtain ⟨QQ, hQQ⟩ : ∃ QQ : UR → Prop, QQ = (fun q : UR => q.1 = some (.int r) ∧ h = q.2) := ⟨_, rfl⟩
  rw [← hQQ]
  have hQ : QQ (some (.int r), h) := by rw [hQQ]; exact ⟨rfl, rfl⟩
  clear hQQ
  show Ends (EX D) (u_at kl_60) (0, [some (.ref a0), some (.int p1), some (.int p2)], [], h) QQ
  refine en_segs [(0, .aload_n 0, [])] (by decide +kernel) (y := (1, [some (.ref a0), some (.int p1), some (.int p2)], [.ref a0], h)) rfl ?_
  refine en_get (by decide +kernel : u_at kl_60 1 = some (.getfield 24, [6, 8])) hW ha0 (by decide) rfl ?_
  refine en_segs [(4, .aload_n 0, [])] (by decide +kernel) (y := (5, [some (.ref a0), some (.int p1), some (.int p2)], [.ref a0, .ref (aP d 6 8 a0)], h)) rfl ?_
  refine en_get (by decide +kernel : u_at kl_60 5 = some (.getfield 31, [6, 10])) hW ha0 (by decide) rfl ?_
  refine en_segs [(8, .iload_n 1, [])] (by decide +kernel) (y := (9, [some (.ref a0), some (.int p1), some (.int p2)], [.int p1, .ref (aP d 6 10 a0), .ref (aP d 6 8 a0)], h)) rfl ?_
  obtain ⟨v1, hv1, hF⟩ := ob_some hF
  refine en_iald (by decide +kernel : u_at kl_60 9 = some (.iaload, [])) hW ha0 rfl (by decide) hv1 ?_
  obtain ⟨v2, hv2, hF⟩ := ob_some hF
  refine en_iald (by decide +kernel : u_at kl_60 10 = some (.iaload, [])) hW ha0 rfl (by decide) hv2 ?_
  refine en_segs [(11, .iload_n 2, []), (12, .ishr, []), (13, .iconst 1, []), (14, .iand, []), (15, .iconst 1, [])] (by decide +kernel) (y := (16, [some (.ref a0), some (.int p1), some (.int p2)], [.int 1, .int ((v2 >>> (p2 &&& 31)) &&& 1)], h)) rfl ?_
  obtain ⟨t3, hX, hK⟩ := ob_some hF
  have j4 : Ends (EX D) (u_at kl_60) (46, [some (.ref a0), some (.int p1), some (.int p2)], [.int t3], h) QQ := by
    have hF := hK
    obtain ⟨z5, hz5, hF⟩ := ob_some hF
    obtain rfl := Option.some.inj hF
    exact en_retZ (by decide +kernel : u_at kl_60 46 = some (.ireturn, [1])) hz5 (hQ)
  have hF := hX
  refine en_ic_ne (by decide +kernel : u_at kl_60 16 = some (.if_icmp .ne 29, [45])) (fun b6 => ?_) (fun b6 => ?_)
  · replace hF := i_pos b6 hF
    refine en_segs [(19, .aload_n 0, [])] (by decide +kernel) (y := (20, [some (.ref a0), some (.int p1), some (.int p2)], [.ref a0], h)) rfl ?_
    refine en_get (by decide +kernel : u_at kl_60 20 = some (.getfield 34, [6, 11])) hW ha0 (by decide) rfl ?_
    refine en_segs [(23, .iload_n 2, [])] (by decide +kernel) (y := (24, [some (.ref a0), some (.int p1), some (.int p2)], [.int p2, .ref (aP d 6 11 a0)], h)) rfl ?_
    obtain ⟨v7, hv7, hF⟩ := ob_some hF
    refine en_iald (by decide +kernel : u_at kl_60 24 = some (.iaload, [])) hW ha0 rfl (by decide) hv7 ?_
    refine en_segs [(25, .aload_n 0, [])] (by decide +kernel) (y := (26, [some (.ref a0), some (.int p1), some (.int p2)], [.ref a0, .int v7], h)) rfl ?_
    refine en_get (by decide +kernel : u_at kl_60 26 = some (.getfield 15, [6, 5])) hW ha0 (by decide) rfl ?_
    refine en_segs [(29, .iload_n 1, [])] (by decide +kernel) (y := (30, [some (.ref a0), some (.int p1), some (.int p2)], [.int p1, .ref (aP d 6 5 a0), .int v7], h)) rfl ?_
    obtain ⟨v8, hv8, hF⟩ := ob_some hF
    refine en_iald (by decide +kernel : u_at kl_60 30 = some (.iaload, [])) hW ha0 rfl (by decide) hv8 ?_
    refine en_segs [(31, .iadd, []), (32, .aload_n 0, [])] (by decide +kernel) (y := (33, [some (.ref a0), some (.int p1), some (.int p2)], [.ref a0, .int (v7 + v8)], h)) rfl ?_
    refine en_get (by decide +kernel : u_at kl_60 33 = some (.getfield 21, [6, 7])) hW ha0 (by decide) rfl ?_
    refine en_segs [(36, .iload_n 2, [])] (by decide +kernel) (y := (37, [some (.ref a0), some (.int p1), some (.int p2)], [.int p2, .ref (aP d 6 7 a0), .int (v7 + v8)], h)) rfl ?_
    obtain ⟨v9, hv9, hF⟩ := ob_some hF
    refine en_iald (by decide +kernel : u_at kl_60 37 = some (.iaload, [])) hW ha0 rfl (by decide) hv9 ?_
    refine en_ic_gt (by decide +kernel : u_at kl_60 38 = some (.if_icmp .gt 7, [45])) (fun b10 => ?_) (fun b10 => ?_)
    · replace hF := i_pos b10 hF
      refine en_segs [(45, .iconst 0, [])] (by decide +kernel) (y := (46, [some (.ref a0), some (.int p1), some (.int p2)], [.int 0], h)) rfl ?_
      obtain rfl := Option.some.inj hF
      exact j4
    · replace hF := i_neg b10 hF
      refine en_segs [(41, .iconst 1, []), (42, .goto 4, [46])] (by decide +kernel) (y := (46, [some (.ref a0), some (.int p1), some (.int p2)], [.int 1], h)) rfl ?_
      obtain rfl := Option.some.inj hF
      exact j4
  · replace hF := i_neg b6 hF
    refine en_segs [(45, .iconst 0, [])] (by decide +kernel) (y := (46, [some (.ref a0), some (.int p1), some (.int p2)], [.int 0], h)) rfl ?_
    obtain rfl := Option.some.inj hF
    exact j4
def G_70 (c10 : Cl) (a1 : Nat) (lab : Nat) (xs : List Int32) (ys : List Int64) (zs : List Nat) : Option Int32 := match lab, xs, ys, zs with
  | 0, [x1, x2, x5], [y3], [] =>
    if x1 ≤ x5 then
    some 1
    else
    ald (cA c10 6 a1) 12 x5 >>= fun v2 =>
    if v2 = x2 then
    ald (cA c10 7 a1) 12 x5 >>= fun v4 =>
    ald (cA c10 8 a1) 12 x5 >>= fun v5 =>
    if (lg_cmp ((y3 >>> ((8 * v4 : Int32).toInt64 &&& 63)) &&& 255) ((v5 : Int32).toInt64)) = 0 then
    G_70 c10 a1 0 [x1, x2, x5 + 1] [y3] []
    else
    some 0
    else
    G_70 c10 a1 0 [x1, x2, x5 + 1] [y3] []
  | _, _, _, _ => none
partial_fixpoint
set_option maxRecDepth 100000 in
set_option maxHeartbeats 4000000 in
theorem g_70 {D : Nat} (hD : 1 ≤ D + 1) {c0 c1 c2 c3 c4 c5 c6 c7 c8 c9 c10 c11 c12 c13 : Cl} {d : Ad} {a1 : Nat} (ha1 : aK d a1 = (0, 10, 0)) : ∀ (lab : Nat) (xs : List Int32) (ys : List Int64) (zs : List Nat) (r : Int32), G_70 c10 a1 lab xs ys zs = some r →
    (∀ (x1 : Int32) (x2 : Int32) (x5 : Int32) (y3 : Int64), lab = 0 → xs = [x1, x2, x5] → ys = [y3] → zs = [] → ∀ h : UH, HW (mkw c0 c1 c2 c3 c4 c5 c6 c7 c8 c9 c10 c11 c12 c13) d h → ∀ QQ : UR → Prop, QQ (some (.int r), h) → Ends (EX D) (u_at kl_70) (3, [some (.ref a1), some (.int x1), some (.int x2), some (.long y3), none, some (.int x5), none, none], [], h) QQ) := by
  refine G_70.partial_correctness _ _ (motive := fun lab xs ys zs r =>
    (∀ (x1 : Int32) (x2 : Int32) (x5 : Int32) (y3 : Int64), lab = 0 → xs = [x1, x2, x5] → ys = [y3] → zs = [] → ∀ h : UH, HW (mkw c0 c1 c2 c3 c4 c5 c6 c7 c8 c9 c10 c11 c12 c13) d h → ∀ QQ : UR → Prop, QQ (some (.int r), h) → Ends (EX D) (u_at kl_70) (3, [some (.ref a1), some (.int x1), some (.int x2), some (.long y3), none, some (.int x5), none, none], [], h) QQ)) ?_
  intro G ih lab xs ys zs r hF
  · intro x1 x2 x5 y3 e1 e2 e3 e4 h hW QQ hQ
    subst e1 e2 e3 e4
    refine en_segs [(3, .iload 5, []), (5, .iload_n 1, [])] (by decide +kernel) (y := (6, [some (.ref a1), some (.int x1), some (.int x2), some (.long y3), none, some (.int x5), none, none], [.int x1, .int x5], h)) rfl ?_
    refine en_ic_ge (by decide +kernel : u_at kl_70 6 = some (.if_icmp .ge 54, [60])) (fun b1 => ?_) (fun b1 => ?_)
    · replace hF := i_pos b1 hF
      refine en_segs [(60, .iconst 1, [])] (by decide +kernel) (y := (61, [some (.ref a1), some (.int x1), some (.int x2), some (.long y3), none, some (.int x5), none, none], [.int 1], h)) rfl ?_
      obtain rfl := Option.some.inj hF
      exact en_ret (by decide +kernel : u_at kl_70 61 = some (.ireturn, [1])) rfl (hQ)
    · replace hF := i_neg b1 hF
      refine en_segs [(9, .aload_n 0, [])] (by decide +kernel) (y := (10, [some (.ref a1), some (.int x1), some (.int x2), some (.long y3), none, some (.int x5), none, none], [.ref a1], h)) rfl ?_
      refine en_get (by decide +kernel : u_at kl_70 10 = some (.getfield 117, [10, 6])) hW ha1 (by decide) rfl ?_
      refine en_segs [(13, .iload 5, [])] (by decide +kernel) (y := (15, [some (.ref a1), some (.int x1), some (.int x2), some (.long y3), none, some (.int x5), none, none], [.int x5, .ref (aP d 10 6 a1)], h)) rfl ?_
      obtain ⟨v2, hv2, hF⟩ := ob_some hF
      refine en_iald (by decide +kernel : u_at kl_70 15 = some (.iaload, [])) hW ha1 rfl (by decide) hv2 ?_
      refine en_segs [(16, .iload_n 2, [])] (by decide +kernel) (y := (17, [some (.ref a1), some (.int x1), some (.int x2), some (.long y3), none, some (.int x5), none, none], [.int x2, .int v2], h)) rfl ?_
      refine en_ic_ne (by decide +kernel : u_at kl_70 17 = some (.if_icmp .ne 37, [54])) (fun b3 => ?_) (fun b3 => ?_)
      · replace hF := i_pos b3 hF
        refine en_segs [(20, .lload_n 3, []), (21, .bipush 8, []), (23, .aload_n 0, [])] (by decide +kernel) (y := (24, [some (.ref a1), some (.int x1), some (.int x2), some (.long y3), none, some (.int x5), none, none], [.ref a1, .int 8, .long y3], h)) rfl ?_
        refine en_get (by decide +kernel : u_at kl_70 24 = some (.getfield 136, [10, 7])) hW ha1 (by decide) rfl ?_
        refine en_segs [(27, .iload 5, [])] (by decide +kernel) (y := (29, [some (.ref a1), some (.int x1), some (.int x2), some (.long y3), none, some (.int x5), none, none], [.int x5, .ref (aP d 10 7 a1), .int 8, .long y3], h)) rfl ?_
        obtain ⟨v4, hv4, hF⟩ := ob_some hF
        refine en_iald (by decide +kernel : u_at kl_70 29 = some (.iaload, [])) hW ha1 rfl (by decide) hv4 ?_
        refine en_segs [(30, .imul, []), (31, .lshr, []), (32, .ldc2_w 139, [255]), (35, .land, []), (36, .lstore 6, []), (38, .lload 6, []), (40, .aload_n 0, [])] (by decide +kernel) (y := (41, [some (.ref a1), some (.int x1), some (.int x2), some (.long y3), none, some (.int x5), some (.long ((y3 >>> ((8 * v4 : Int32).toInt64 &&& 63)) &&& 255)), none], [.ref a1, .long ((y3 >>> ((8 * v4 : Int32).toInt64 &&& 63)) &&& 255)], h)) rfl ?_
        refine en_get (by decide +kernel : u_at kl_70 41 = some (.getfield 141, [10, 8])) hW ha1 (by decide) rfl ?_
        refine en_segs [(44, .iload 5, [])] (by decide +kernel) (y := (46, [some (.ref a1), some (.int x1), some (.int x2), some (.long y3), none, some (.int x5), some (.long ((y3 >>> ((8 * v4 : Int32).toInt64 &&& 63)) &&& 255)), none], [.int x5, .ref (aP d 10 8 a1), .long ((y3 >>> ((8 * v4 : Int32).toInt64 &&& 63)) &&& 255)], h)) rfl ?_
        obtain ⟨v5, hv5, hF⟩ := ob_some hF
        refine en_iald (by decide +kernel : u_at kl_70 46 = some (.iaload, [])) hW ha1 rfl (by decide) hv5 ?_
        refine en_segs [(47, .i2l, []), (48, .lcmp, [])] (by decide +kernel) (y := (49, [some (.ref a1), some (.int x1), some (.int x2), some (.long y3), none, some (.int x5), some (.long ((y3 >>> ((8 * v4 : Int32).toInt64 &&& 63)) &&& 255)), none], [.int (lg_cmp ((y3 >>> ((8 * v4 : Int32).toInt64 &&& 63)) &&& 255) ((v5 : Int32).toInt64))], h)) rfl ?_
        refine en_if_eq (by decide +kernel : u_at kl_70 49 = some (.ifCond .eq 5, [54])) (fun b6 => ?_) (fun b6 => ?_)
        · replace hF := i_pos b6 hF
          refine en_segs [(54, .iinc 5 1, []), (57, .goto (-54), [3])] (by decide +kernel) (y := (3, [some (.ref a1), some (.int x1), some (.int x2), some (.long y3), none, some (.int (x5 + 1)), some (.long ((y3 >>> ((8 * v4 : Int32).toInt64 &&& 63)) &&& 255)), none], [], h)) rfl ?_
          refine en_fg (fg_k (fg_k (fg_k (fg_k (fg_k (fg_k (fg_d (fg_k fg_0)))))))) ?_
          exact (ih _ _ _ _ _ hF) _ _ _ _ rfl rfl rfl rfl  _ hW _ hQ
        · replace hF := i_neg b6 hF
          refine en_segs [(52, .iconst 0, [])] (by decide +kernel) (y := (53, [some (.ref a1), some (.int x1), some (.int x2), some (.long y3), none, some (.int x5), some (.long ((y3 >>> ((8 * v4 : Int32).toInt64 &&& 63)) &&& 255)), none], [.int 0], h)) rfl ?_
          obtain rfl := Option.some.inj hF
          exact en_ret (by decide +kernel : u_at kl_70 53 = some (.ireturn, [1])) rfl (hQ)
      · replace hF := i_neg b3 hF
        refine en_segs [(54, .iinc 5 1, []), (57, .goto (-54), [3])] (by decide +kernel) (y := (3, [some (.ref a1), some (.int x1), some (.int x2), some (.long y3), none, some (.int (x5 + 1)), none, none], [], h)) rfl ?_
        exact (ih _ _ _ _ _ hF) _ _ _ _ rfl rfl rfl rfl  _ hW _ hQ
def F_70 (c10 : Cl) (a1 : Nat) (p2 : Int32) (p3 : Int32) (p4 : Int64) : Option Int32 :=
  G_70 c10 a1 0 [p2, p3, 0] [p4] []
set_option maxRecDepth 100000 in
set_option maxHeartbeats 4000000 in
/-- HeadCounts$Search.isAsTold -/
theorem e_70 {D : Nat} {c0 c1 c2 c3 c4 c5 c6 c7 c8 c9 c10 c11 c12 c13 : Cl} {d : Ad} {h : UH} {a1 : Nat} {p2 : Int32} {p3 : Int32} {p4 : Int64} {r : Int32} (hD : 1 ≤ D) (hW : HW (mkw c0 c1 c2 c3 c4 c5 c6 c7 c8 c9 c10 c11 c12 c13) d h) (ha1 : aK d a1 = (0, 10, 0)) (hF : F_70 c10 a1 p2 p3 p4 = some r) : ∃ q, EX D 70 [.ref a1, .int p2, .int p3, .long p4] h q ∧ q.1 = some (.int r) ∧ h = q.2 := by
  obtain ⟨D, rfl⟩ : ∃ E, D = E + 1 := ⟨D - 1, by omega⟩
  unfold F_70 at hF
  refine ex_in (kl := kl_70) (nL := 8) rfl (by decide +kernel) (Nat.le_of_ble_eq_true rfl) ?_
  obtain ⟨QQ, hQQ⟩ : ∃ QQ : UR → Prop, QQ = (fun q : UR => q.1 = some (.int r) ∧ h = q.2) := ⟨_, rfl⟩
  rw [← hQQ]
  have hQ : QQ (some (.int r), h) := by rw [hQQ]; exact ⟨rfl, rfl⟩
  clear hQQ
  show Ends (EX D) (u_at kl_70) (0, [some (.ref a1), some (.int p2), some (.int p3), some (.long p4), none, none, none, none], [], h) QQ
  refine en_segs [(0, .iconst 0, []), (1, .istore 5, [])] (by decide +kernel) (y := (3, [some (.ref a1), some (.int p2), some (.int p3), some (.long p4), none, some (.int 0), none, none], [], h)) rfl ?_
  exact (g_70 (D := D) hD ha1 _ _ _ _ _ hF) _ _ _ _ rfl rfl rfl rfl  _ hW _ hQ
def G_69 (c7 : Cl) (c10 : Cl) (d : Ad) (a0 : Nat) (a1 : Nat) (lab : Nat) (xs : List Int32) (ys : List Int64) (zs : List Nat) (c6 : Cl) (c13 : Cl) : Option (Int32 × Cl × Cl) := match lab, xs, ys, zs with
  | 0, [x2, x3, x4, x5, x6], [], [] =>
    if x2 ≤ x6 then
    if x5 = 0 then
    some (x4, c6, c13)
    else
    G_69 c7 c10 d a0 a1 1 [x2, x3, x4, 0, 0] [] [] c6 c13
    else
    ald (cA c10 6 a1) 12 x6 >>= fun v3 =>
    ((if v3 = x3 then
    some 1
    else
    some 0) : Option (Int32)) >>= fun (t4 : Int32) =>
    G_69 c7 c10 d a0 a1 0 [x2, x3, x4, x5 ||| t4, x6 + 1] [] [] c6 c13
  | 1, [x2, x3, x4, x6, x7], [], [] =>
    if x4 ≤ x7 then
    some (x6, c6, c13)
    else
    ald (cA c13 0 (cR c6 14 (cR c7 0 a0))) (aN d (cR c6 14 (cR c7 0 a0))) x7 >>= fun v10 =>
    F_57 c6 (cR c7 0 a0) v10 >>= fun r11 =>
    F_58 r11 (cR c7 0 a0) >>= fun r12 =>
    F_70 c10 a1 x2 x3 r12 >>= fun r13 =>
    ((if r13 = 0 then
    stl c13 0 (cR r11 12 (cR c7 0 a0)) (aN d (cR r11 12 (cR c7 0 a0))) v10 0 >>= fun c13_18 =>
    some (x6, c13_18)
    else
    ast c13 0 (cR r11 14 (cR c7 0 a0)) (aN d (cR r11 14 (cR c7 0 a0))) x6 v10 >>= fun c13_20 =>
    some (x6 + 1, c13_20)) : Option (Int32 × Cl)) >>= fun (t14 : Int32 × Cl) =>
    G_69 c7 c10 d a0 a1 1 [x2, x3, x4, t14.1, x7 + 1] [] [] r11 t14.2
  | _, _, _, _ => none
partial_fixpoint
set_option maxRecDepth 100000 in
set_option maxHeartbeats 4000000 in
theorem g_69 {D : Nat} (hD : 3 ≤ D + 1) {c0 c1 c2 c3 c4 c5 c7 c8 c9 c10 c11 c12 : Cl} {d : Ad} {a0 : Nat} {a1 : Nat} (ha0 : aK d a0 = (0, 7, 0)) (ha1 : aK d a1 = (0, 10, 0)) : ∀ (lab : Nat) (xs : List Int32) (ys : List Int64) (zs : List Nat) (c6 : Cl) (c13 : Cl) (r : (Int32 × Cl × Cl)), G_69 c7 c10 d a0 a1 lab xs ys zs c6 c13 = some r →
    (∀ (x2 : Int32) (x3 : Int32) (x4 : Int32) (x5 : Int32) (x6 : Int32), lab = 0 → xs = [x2, x3, x4, x5, x6] → ys = [] → zs = [] → ∀ h : UH, HW (mkw c0 c1 c2 c3 c4 c5 c6 c7 c8 c9 c10 c11 c12 c13) d h → ∀ QQ : UR → Prop, (∀ h' : UH, HW (mkw c0 c1 c2 c3 c4 c5 r.2.1 c7 c8 c9 c10 c11 c12 r.2.2) d h' → QQ (some (.int r.1), h')) → Ends (EX D) (u_at kl_69) (6, [some (.ref a0), some (.ref a1), some (.int x2), some (.int x3), some (.int x4), some (.int x5), some (.int x6), none, none], [], h) QQ) ∧
    (∀ (x2 : Int32) (x3 : Int32) (x4 : Int32) (x6 : Int32) (x7 : Int32), lab = 1 → xs = [x2, x3, x4, x6, x7] → ys = [] → zs = [] → ∀ h : UH, HW (mkw c0 c1 c2 c3 c4 c5 c6 c7 c8 c9 c10 c11 c12 c13) d h → ∀ QQ : UR → Prop, (∀ h' : UH, HW (mkw c0 c1 c2 c3 c4 c5 r.2.1 c7 c8 c9 c10 c11 c12 r.2.2) d h' → QQ (some (.int r.1), h')) → Ends (EX D) (u_at kl_69) (53, [some (.ref a0), some (.ref a1), some (.int x2), some (.int x3), some (.int x4), none, some (.int x6), some (.int x7), none], [], h) QQ) := by
  refine G_69.partial_correctness _ _ _ _ _ (motive := fun lab xs ys zs c6 c13 r =>
    (∀ (x2 : Int32) (x3 : Int32) (x4 : Int32) (x5 : Int32) (x6 : Int32), lab = 0 → xs = [x2, x3, x4, x5, x6] → ys = [] → zs = [] → ∀ h : UH, HW (mkw c0 c1 c2 c3 c4 c5 c6 c7 c8 c9 c10 c11 c12 c13) d h → ∀ QQ : UR → Prop, (∀ h' : UH, HW (mkw c0 c1 c2 c3 c4 c5 r.2.1 c7 c8 c9 c10 c11 c12 r.2.2) d h' → QQ (some (.int r.1), h')) → Ends (EX D) (u_at kl_69) (6, [some (.ref a0), some (.ref a1), some (.int x2), some (.int x3), some (.int x4), some (.int x5), some (.int x6), none, none], [], h) QQ) ∧
    (∀ (x2 : Int32) (x3 : Int32) (x4 : Int32) (x6 : Int32) (x7 : Int32), lab = 1 → xs = [x2, x3, x4, x6, x7] → ys = [] → zs = [] → ∀ h : UH, HW (mkw c0 c1 c2 c3 c4 c5 c6 c7 c8 c9 c10 c11 c12 c13) d h → ∀ QQ : UR → Prop, (∀ h' : UH, HW (mkw c0 c1 c2 c3 c4 c5 r.2.1 c7 c8 c9 c10 c11 c12 r.2.2) d h' → QQ (some (.int r.1), h')) → Ends (EX D) (u_at kl_69) (53, [some (.ref a0), some (.ref a1), some (.int x2), some (.int x3), some (.int x4), none, some (.int x6), some (.int x7), none], [], h) QQ)) ?_
  intro G ih lab xs ys zs c6 c13 r hF
  refine ⟨?_, ?_⟩
  · intro x2 x3 x4 x5 x6 e1 e2 e3 e4 h hW QQ hQ
    subst e1 e2 e3 e4
    refine en_segs [(6, .iload 6, []), (8, .iload_n 2, [])] (by decide +kernel) (y := (9, [some (.ref a0), some (.ref a1), some (.int x2), some (.int x3), some (.int x4), some (.int x5), some (.int x6), none, none], [.int x2, .int x6], h)) rfl ?_
    refine en_ic_ge (by decide +kernel : u_at kl_69 9 = some (.if_icmp .ge 30, [39])) (fun b1 => ?_) (fun b1 => ?_)
    · replace hF := i_pos b1 hF
      refine en_segs [(39, .iload 5, [])] (by decide +kernel) (y := (41, [some (.ref a0), some (.ref a1), some (.int x2), some (.int x3), some (.int x4), some (.int x5), some (.int x6), none, none], [.int x5], h)) rfl ?_
      refine en_if_ne (by decide +kernel : u_at kl_69 41 = some (.ifCond .ne 6, [47])) (fun b2 => ?_) (fun b2 => ?_)
      · replace hF := i_pos b2 hF
        refine en_segs [(44, .iload 4, [])] (by decide +kernel) (y := (46, [some (.ref a0), some (.ref a1), some (.int x2), some (.int x3), some (.int x4), some (.int x5), some (.int x6), none, none], [.int x4], h)) rfl ?_
        obtain rfl := Option.some.inj hF
        exact en_ret (by decide +kernel : u_at kl_69 46 = some (.ireturn, [0])) rfl (hQ _ hW)
      · replace hF := i_neg b2 hF
        refine en_segs [(47, .iconst 0, []), (48, .istore 6, []), (50, .iconst 0, []), (51, .istore 7, [])] (by decide +kernel) (y := (53, [some (.ref a0), some (.ref a1), some (.int x2), some (.int x3), some (.int x4), some (.int x5), some (.int 0), some (.int 0), none], [], h)) rfl ?_
        refine en_fg (fg_k (fg_k (fg_k (fg_k (fg_k (fg_d (fg_k (fg_k (fg_k fg_0))))))))) ?_
        exact (ih _ _ _ _ _ _ _ hF).2 _ _ _ _ _ rfl rfl rfl rfl  _ hW _ hQ
    · replace hF := i_neg b1 hF
      refine en_segs [(12, .iload 5, []), (14, .aload_n 1, [])] (by decide +kernel) (y := (15, [some (.ref a0), some (.ref a1), some (.int x2), some (.int x3), some (.int x4), some (.int x5), some (.int x6), none, none], [.ref a1, .int x5], h)) rfl ?_
      refine en_get (by decide +kernel : u_at kl_69 15 = some (.getfield 117, [10, 6])) hW ha1 (by decide) rfl ?_
      refine en_segs [(18, .iload 6, [])] (by decide +kernel) (y := (20, [some (.ref a0), some (.ref a1), some (.int x2), some (.int x3), some (.int x4), some (.int x5), some (.int x6), none, none], [.int x6, .ref (aP d 10 6 a1), .int x5], h)) rfl ?_
      obtain ⟨v3, hv3, hF⟩ := ob_some hF
      refine en_iald (by decide +kernel : u_at kl_69 20 = some (.iaload, [])) hW ha1 rfl (by decide) hv3 ?_
      refine en_segs [(21, .iload_n 3, [])] (by decide +kernel) (y := (22, [some (.ref a0), some (.ref a1), some (.int x2), some (.int x3), some (.int x4), some (.int x5), some (.int x6), none, none], [.int x3, .int v3, .int x5], h)) rfl ?_
      obtain ⟨t4, hX, hK⟩ := ob_some hF
      have j5 : ∀ h : UH, HW (mkw c0 c1 c2 c3 c4 c5 c6 c7 c8 c9 c10 c11 c12 c13) d h → Ends (EX D) (u_at kl_69) (30, [some (.ref a0), some (.ref a1), some (.int x2), some (.int x3), some (.int x4), some (.int x5), some (.int x6), none, none], [.int t4, .int x5], h) QQ := by
        intro h hW
        have hF := hK
        refine en_segs [(30, .ior, []), (31, .istore 5, []), (33, .iinc 6 1, []), (36, .goto (-30), [6])] (by decide +kernel) (y := (6, [some (.ref a0), some (.ref a1), some (.int x2), some (.int x3), some (.int x4), some (.int (x5 ||| t4)), some (.int (x6 + 1)), none, none], [], h)) rfl ?_
        exact (ih _ _ _ _ _ _ _ hF).1 _ _ _ _ _ rfl rfl rfl rfl  _ hW _ hQ
      have hF := hX
      refine en_ic_ne (by decide +kernel : u_at kl_69 22 = some (.if_icmp .ne 7, [29])) (fun b6 => ?_) (fun b6 => ?_)
      · replace hF := i_pos b6 hF
        refine en_segs [(25, .iconst 1, []), (26, .goto 4, [30])] (by decide +kernel) (y := (30, [some (.ref a0), some (.ref a1), some (.int x2), some (.int x3), some (.int x4), some (.int x5), some (.int x6), none, none], [.int 1, .int x5], h)) rfl ?_
        obtain rfl := Option.some.inj hF
        exact j5 _ hW
      · replace hF := i_neg b6 hF
        refine en_segs [(29, .iconst 0, [])] (by decide +kernel) (y := (30, [some (.ref a0), some (.ref a1), some (.int x2), some (.int x3), some (.int x4), some (.int x5), some (.int x6), none, none], [.int 0, .int x5], h)) rfl ?_
        obtain rfl := Option.some.inj hF
        exact j5 _ hW
  · intro x2 x3 x4 x6 x7 e1 e2 e3 e4 h hW QQ hQ
    subst e1 e2 e3 e4
    refine en_segs [(53, .iload 7, []), (55, .iload 4, [])] (by decide +kernel) (y := (57, [some (.ref a0), some (.ref a1), some (.int x2), some (.int x3), some (.int x4), none, some (.int x6), some (.int x7), none], [.int x4, .int x7], h)) rfl ?_
    refine en_ic_ge (by decide +kernel : u_at kl_69 57 = some (.if_icmp .ge 75, [132])) (fun b7 => ?_) (fun b7 => ?_)
    · replace hF := i_pos b7 hF
      refine en_segs [(132, .iload 6, [])] (by decide +kernel) (y := (134, [some (.ref a0), some (.ref a1), some (.int x2), some (.int x3), some (.int x4), none, some (.int x6), some (.int x7), none], [.int x6], h)) rfl ?_
      obtain rfl := Option.some.inj hF
      exact en_ret (by decide +kernel : u_at kl_69 134 = some (.ireturn, [0])) rfl (hQ _ hW)
    · replace hF := i_neg b7 hF
      refine en_segs [(60, .aload_n 0, [])] (by decide +kernel) (y := (61, [some (.ref a0), some (.ref a1), some (.int x2), some (.int x3), some (.int x4), none, some (.int x6), some (.int x7), none], [.ref a0], h)) rfl ?_
      have k8 : aK d (cR c7 0 a0) = (0, 6, 0) := wf_obj hW ha0 (by decide) rfl
      refine en_get (by decide +kernel : u_at kl_69 61 = some (.getfield 18, [7, 0])) hW ha0 (by decide) rfl ?_
      have k9 : aK d (cR c6 14 (cR c7 0 a0)) = (2, 1, 0) := wf_free hW k8 (by decide) rfl
      refine en_get (by decide +kernel : u_at kl_69 64 = some (.getfield 55, [6, 14])) hW k8 (by decide) rfl ?_
      refine en_segs [(67, .iload 7, [])] (by decide +kernel) (y := (69, [some (.ref a0), some (.ref a1), some (.int x2), some (.int x3), some (.int x4), none, some (.int x6), some (.int x7), none], [.int x7, .ref (cR c6 14 (cR c7 0 a0))], h)) rfl ?_
      obtain ⟨v10, hv10, hF⟩ := ob_some hF
      refine en_fiald (by decide +kernel : u_at kl_69 69 = some (.iaload, [])) hW k9 hv10 ?_
      refine en_segs [(70, .istore 8, []), (72, .aload_n 0, [])] (by decide +kernel) (y := (73, [some (.ref a0), some (.ref a1), some (.int x2), some (.int x3), some (.int x4), none, some (.int x6), some (.int x7), some (.int v10)], [.ref a0], h)) rfl ?_
      refine en_get (by decide +kernel : u_at kl_69 73 = some (.getfield 18, [7, 0])) hW ha0 (by decide) rfl ?_
      refine en_segs [(76, .iload 8, [])] (by decide +kernel) (y := (78, [some (.ref a0), some (.ref a1), some (.int x2), some (.int x3), some (.int x4), none, some (.int x6), some (.int x7), some (.int v10)], [.int v10, .ref (cR c7 0 a0)], h)) rfl ?_
      obtain ⟨r11, hr11, hF⟩ := ob_some hF
      refine en_vv (r := []) (by decide +kernel : u_at kl_69 78 = some (.invokevirtual 68, [57, 1, 6])) hW k8 rfl rfl (Nat.le_of_ble_eq_true rfl) (e_57 (D := D) (by omega) hW k8 hr11) (fun h hW => ?_)
      have hW : HW (mkw c0 c1 c2 c3 c4 c5 r11 c7 c8 c9 c10 c11 c12 c13) d h := hW
      refine en_segs [(81, .aload_n 1, []), (82, .iload_n 2, []), (83, .iload_n 3, []), (84, .aload_n 0, [])] (by decide +kernel) (y := (85, [some (.ref a0), some (.ref a1), some (.int x2), some (.int x3), some (.int x4), none, some (.int x6), some (.int x7), some (.int v10)], [.ref a0, .int x3, .int x2, .ref a1], h)) rfl ?_
      refine en_get (by decide +kernel : u_at kl_69 85 = some (.getfield 18, [7, 0])) hW ha0 (by decide) rfl ?_
      obtain ⟨r12, hr12, hF⟩ := ob_some hF
      refine en_vl (r := [.int x3, .int x2, .ref a1]) (by decide +kernel : u_at kl_69 88 = some (.invokevirtual 128, [58, 0, 6])) hW k8 rfl rfl (Nat.le_of_ble_eq_true rfl) (e_58 (D := D) (by omega) hW k8 hr12) (fun h' q => ?_)
      subst q
      obtain ⟨r13, hr13, hF⟩ := ob_some hF
      refine en_si (r := []) (by decide +kernel : u_at kl_69 91 = some (.invokestatic 132, [70, 4])) rfl rfl (Nat.le_of_ble_eq_true rfl) (e_70 (D := D) (by omega) hW ha1 hr13) (fun h' q => ?_)
      subst q
      obtain ⟨t14, hX, hK⟩ := ob_some hF
      have j15 : ∀ h : UH, HW (mkw c0 c1 c2 c3 c4 c5 r11 c7 c8 c9 c10 c11 c12 t14.2) d h → Ends (EX D) (u_at kl_69) (126, [some (.ref a0), some (.ref a1), some (.int x2), some (.int x3), some (.int x4), none, some (.int t14.1), some (.int x7), some (.int v10)], [], h) QQ := by
        intro h hW
        have hF := hK
        refine en_segs [(126, .iinc 7 1, []), (129, .goto (-76), [53])] (by decide +kernel) (y := (53, [some (.ref a0), some (.ref a1), some (.int x2), some (.int x3), some (.int x4), none, some (.int t14.1), some (.int (x7 + 1)), some (.int v10)], [], h)) rfl ?_
        refine en_fg (fg_k (fg_k (fg_k (fg_k (fg_k (fg_k (fg_k (fg_k (fg_d fg_0))))))))) ?_
        exact (ih _ _ _ _ _ _ _ hF).2 _ _ _ _ _ rfl rfl rfl rfl  _ hW _ hQ
      have hF := hX
      refine en_if_eq (by decide +kernel : u_at kl_69 94 = some (.ifCond .eq 21, [115])) (fun b16 => ?_) (fun b16 => ?_)
      · replace hF := i_pos b16 hF
        refine en_segs [(115, .aload_n 0, [])] (by decide +kernel) (y := (116, [some (.ref a0), some (.ref a1), some (.int x2), some (.int x3), some (.int x4), none, some (.int x6), some (.int x7), some (.int v10)], [.ref a0], h)) rfl ?_
        refine en_get (by decide +kernel : u_at kl_69 116 = some (.getfield 18, [7, 0])) hW ha0 (by decide) rfl ?_
        have k17 : aK d (cR r11 12 (cR c7 0 a0)) = (2, 2, 0) := wf_free hW k8 (by decide) rfl
        refine en_get (by decide +kernel : u_at kl_69 119 = some (.getfield 49, [6, 12])) hW k8 (by decide) rfl ?_
        refine en_segs [(122, .iload 8, []), (124, .lconst 0, [])] (by decide +kernel) (y := (125, [some (.ref a0), some (.ref a1), some (.int x2), some (.int x3), some (.int x4), none, some (.int x6), some (.int x7), some (.int v10)], [.long 0, .int v10, .ref (cR r11 12 (cR c7 0 a0))], h)) rfl ?_
        obtain ⟨c13_18, hc13_18, hF⟩ := ob_some hF
        refine en_flast (by decide +kernel : u_at kl_69 125 = some (.lastore, [])) hW k17 hc13_18 (fun h hW => ?_)
        have hW : HW (mkw c0 c1 c2 c3 c4 c5 r11 c7 c8 c9 c10 c11 c12 c13_18) d h := hW
        obtain rfl := Option.some.inj hF
        exact j15 _ hW
      · replace hF := i_neg b16 hF
        refine en_segs [(97, .aload_n 0, [])] (by decide +kernel) (y := (98, [some (.ref a0), some (.ref a1), some (.int x2), some (.int x3), some (.int x4), none, some (.int x6), some (.int x7), some (.int v10)], [.ref a0], h)) rfl ?_
        refine en_get (by decide +kernel : u_at kl_69 98 = some (.getfield 18, [7, 0])) hW ha0 (by decide) rfl ?_
        have k19 : aK d (cR r11 14 (cR c7 0 a0)) = (2, 1, 0) := wf_free hW k8 (by decide) rfl
        refine en_get (by decide +kernel : u_at kl_69 101 = some (.getfield 55, [6, 14])) hW k8 (by decide) rfl ?_
        refine en_segs [(104, .iload 6, []), (106, .iload 8, [])] (by decide +kernel) (y := (108, [some (.ref a0), some (.ref a1), some (.int x2), some (.int x3), some (.int x4), none, some (.int x6), some (.int x7), some (.int v10)], [.int v10, .int x6, .ref (cR r11 14 (cR c7 0 a0))], h)) rfl ?_
        obtain ⟨c13_20, hc13_20, hF⟩ := ob_some hF
        refine en_fiast (by decide +kernel : u_at kl_69 108 = some (.iastore, [])) hW k19 hc13_20 (fun h hW => ?_)
        have hW : HW (mkw c0 c1 c2 c3 c4 c5 r11 c7 c8 c9 c10 c11 c12 c13_20) d h := hW
        refine en_segs [(109, .iinc 6 1, []), (112, .goto 14, [126])] (by decide +kernel) (y := (126, [some (.ref a0), some (.ref a1), some (.int x2), some (.int x3), some (.int x4), none, some (.int (x6 + 1)), some (.int x7), some (.int v10)], [], h)) rfl ?_
        obtain rfl := Option.some.inj hF
        exact j15 _ hW
def F_69 (c6 : Cl) (c7 : Cl) (c10 : Cl) (c13 : Cl) (d : Ad) (a0 : Nat) (a1 : Nat) (p2 : Int32) (p3 : Int32) (p4 : Int32) : Option (Int32 × Cl × Cl) :=
  G_69 c7 c10 d a0 a1 0 [p2, p3, p4, 0, 0] [] [] c6 c13
set_option maxRecDepth 100000 in
set_option maxHeartbeats 4000000 in
/-- HeadCounts$Search.keepFitting -/
theorem e_69 {D : Nat} {c0 c1 c2 c3 c4 c5 c6 c7 c8 c9 c10 c11 c12 c13 : Cl} {d : Ad} {h : UH} {a0 : Nat} {a1 : Nat} {p2 : Int32} {p3 : Int32} {p4 : Int32} {r : (Int32 × Cl × Cl)} (hD : 3 ≤ D) (hW : HW (mkw c0 c1 c2 c3 c4 c5 c6 c7 c8 c9 c10 c11 c12 c13) d h) (ha0 : aK d a0 = (0, 7, 0)) (ha1 : aK d a1 = (0, 10, 0)) (hF : F_69 c6 c7 c10 c13 d a0 a1 p2 p3 p4 = some r) : ∃ q, EX D 69 [.ref a0, .ref a1, .int p2, .int p3, .int p4] h q ∧ q.1 = some (.int r.1) ∧ HW (mkw c0 c1 c2 c3 c4 c5 r.2.1 c7 c8 c9 c10 c11 c12 r.2.2) d q.2 := by
  obtain ⟨D, rfl⟩ : ∃ E, D = E + 1 := ⟨D - 1, by omega⟩
  unfold F_69 at hF
  refine ex_in (kl := kl_69) (nL := 9) rfl (by decide +kernel) (Nat.le_of_ble_eq_true rfl) ?_
  obtain ⟨QQ, hQQ⟩ : ∃ QQ : UR → Prop, QQ = (fun q : UR => q.1 = some (.int r.1) ∧ HW (mkw c0 c1 c2 c3 c4 c5 r.2.1 c7 c8 c9 c10 c11 c12 r.2.2) d q.2) := ⟨_, rfl⟩
  rw [← hQQ]
  have hQ : ∀ h' : UH, HW (mkw c0 c1 c2 c3 c4 c5 r.2.1 c7 c8 c9 c10 c11 c12 r.2.2) d h' → QQ (some (.int r.1), h') := fun h' p => by rw [hQQ]; exact ⟨rfl, p⟩
  clear hQQ
  show Ends (EX D) (u_at kl_69) (0, [some (.ref a0), some (.ref a1), some (.int p2), some (.int p3), some (.int p4), none, none, none, none], [], h) QQ
  refine en_segs [(0, .iconst 0, []), (1, .istore 5, []), (3, .iconst 0, []), (4, .istore 6, [])] (by decide +kernel) (y := (6, [some (.ref a0), some (.ref a1), some (.int p2), some (.int p3), some (.int p4), some (.int 0), some (.int 0), none, none], [], h)) rfl ?_
  exact (g_69 (D := D) hD ha0 ha1 _ _ _ _ _ _ _ hF).1 _ _ _ _ _ rfl rfl rfl rfl  _ hW _ hQ
def F_73 (c6 : Cl) (c7 : Cl) (c13 : Cl) (d : Ad) (a0 : Nat) (p1 : Int32) (p2 : Int64) (p3 : Int32) : Option (Int32 × Cl) :=
  if p1 < 0 then
  some (p3, c13)
  else
  if p1 < (Int32.ofNat (aN d (cR c6 13 (cR c7 0 a0)))) then
  ldl (cB c13 0 (cR c6 13 (cR c7 0 a0))) (aN d (cR c6 13 (cR c7 0 a0))) p1 >>= fun v5 =>
  ((if (lg_cmp v5 0) = 0 then
  some 1
  else
  some 0) : Option (Int32)) >>= fun (t6 : Int32) =>
  ldl (cB c13 0 (cR c6 13 (cR c7 0 a0))) (aN d (cR c6 13 (cR c7 0 a0))) p1 >>= fun v8 =>
  stl c13 0 (cR c6 13 (cR c7 0 a0)) (aN d (cR c6 13 (cR c7 0 a0))) p1 (v8 + p2) >>= fun c13_9 =>
  if t6 = 0 then
  some (p3, c13_9)
  else
  if p3 < 0 then
  some (p3, c13_9)
  else
  if p3 < (Int32.ofNat (aN d (cR c6 15 (cR c7 0 a0)))) then
  ast c13_9 0 (cR c6 15 (cR c7 0 a0)) (aN d (cR c6 15 (cR c7 0 a0))) p3 p1 >>= fun c13_14 =>
  some (p3 + 1, c13_14)
  else
  some (p3, c13_9)
  else
  some (p3, c13)
set_option maxRecDepth 100000 in
set_option maxHeartbeats 4000000 in
/-- HeadCounts$Search.addWays -/
theorem e_73 {D : Nat} {c0 c1 c2 c3 c4 c5 c6 c7 c8 c9 c10 c11 c12 c13 : Cl} {d : Ad} {h : UH} {a0 : Nat} {p1 : Int32} {p2 : Int64} {p3 : Int32} {r : (Int32 × Cl)} (hD : 1 ≤ D) (hW : HW (mkw c0 c1 c2 c3 c4 c5 c6 c7 c8 c9 c10 c11 c12 c13) d h) (ha0 : aK d a0 = (0, 7, 0)) (hF : F_73 c6 c7 c13 d a0 p1 p2 p3 = some r) : ∃ q, EX D 73 [.ref a0, .int p1, .long p2, .int p3] h q ∧ q.1 = some (.int r.1) ∧ HW (mkw c0 c1 c2 c3 c4 c5 c6 c7 c8 c9 c10 c11 c12 r.2) d q.2 := by
  obtain ⟨D, rfl⟩ : ∃ E, D = E + 1 := ⟨D - 1, by omega⟩
  unfold F_73 at hF
  refine ex_in (kl := kl_73) (nL := 6) rfl (by decide +kernel) (Nat.le_of_ble_eq_true rfl) ?_
  obtain ⟨QQ, hQQ⟩ : ∃ QQ : UR → Prop, QQ = (fun q : UR => q.1 = some (.int r.1) ∧ HW (mkw c0 c1 c2 c3 c4 c5 c6 c7 c8 c9 c10 c11 c12 r.2) d q.2) := ⟨_, rfl⟩
  rw [← hQQ]
  have hQ : ∀ h' : UH, HW (mkw c0 c1 c2 c3 c4 c5 c6 c7 c8 c9 c10 c11 c12 r.2) d h' → QQ (some (.int r.1), h') := fun h' p => by rw [hQQ]; exact ⟨rfl, p⟩
  clear hQQ
  show Ends (EX D) (u_at kl_73) (0, [some (.ref a0), some (.int p1), some (.long p2), none, some (.int p3), none], [], h) QQ
  refine en_segs [(0, .iload_n 1, [])] (by decide +kernel) (y := (1, [some (.ref a0), some (.int p1), some (.long p2), none, some (.int p3), none], [.int p1], h)) rfl ?_
  refine en_if_lt (by decide +kernel : u_at kl_73 1 = some (.ifCond .lt 15, [16])) (fun b1 => ?_) (fun b1 => ?_)
  · replace hF := i_pos b1 hF
    refine en_segs [(16, .iload 4, [])] (by decide +kernel) (y := (18, [some (.ref a0), some (.int p1), some (.long p2), none, some (.int p3), none], [.int p3], h)) rfl ?_
    obtain rfl := Option.some.inj hF
    exact en_ret (by decide +kernel : u_at kl_73 18 = some (.ireturn, [0])) rfl (hQ _ hW)
  · replace hF := i_neg b1 hF
    refine en_segs [(4, .iload_n 1, []), (5, .aload_n 0, [])] (by decide +kernel) (y := (6, [some (.ref a0), some (.int p1), some (.long p2), none, some (.int p3), none], [.ref a0, .int p1], h)) rfl ?_
    have k2 : aK d (cR c7 0 a0) = (0, 6, 0) := wf_obj hW ha0 (by decide) rfl
    refine en_get (by decide +kernel : u_at kl_73 6 = some (.getfield 18, [7, 0])) hW ha0 (by decide) rfl ?_
    have k3 : aK d (cR c6 13 (cR c7 0 a0)) = (2, 2, 0) := wf_free hW k2 (by decide) rfl
    refine en_get (by decide +kernel : u_at kl_73 9 = some (.getfield 164, [6, 13])) hW k2 (by decide) rfl ?_
    refine en_flen (by decide +kernel : u_at kl_73 12 = some (.arraylength, [])) hW k3 (by decide) ?_
    refine en_ic_lt (by decide +kernel : u_at kl_73 13 = some (.if_icmp .lt 6, [19])) (fun b4 => ?_) (fun b4 => ?_)
    · replace hF := i_pos b4 hF
      refine en_segs [(19, .aload_n 0, [])] (by decide +kernel) (y := (20, [some (.ref a0), some (.int p1), some (.long p2), none, some (.int p3), none], [.ref a0], h)) rfl ?_
      refine en_get (by decide +kernel : u_at kl_73 20 = some (.getfield 18, [7, 0])) hW ha0 (by decide) rfl ?_
      refine en_get (by decide +kernel : u_at kl_73 23 = some (.getfield 164, [6, 13])) hW k2 (by decide) rfl ?_
      refine en_segs [(26, .iload_n 1, [])] (by decide +kernel) (y := (27, [some (.ref a0), some (.int p1), some (.long p2), none, some (.int p3), none], [.int p1, .ref (cR c6 13 (cR c7 0 a0))], h)) rfl ?_
      obtain ⟨v5, hv5, hF⟩ := ob_some hF
      refine en_flald (by decide +kernel : u_at kl_73 27 = some (.laload, [])) hW k3 hv5 ?_
      refine en_segs [(28, .lconst 0, []), (29, .lcmp, [])] (by decide +kernel) (y := (30, [some (.ref a0), some (.int p1), some (.long p2), none, some (.int p3), none], [.int (lg_cmp v5 0)], h)) rfl ?_
      obtain ⟨t6, hX, hK⟩ := ob_some hF
      have j7 : ∀ h : UH, HW (mkw c0 c1 c2 c3 c4 c5 c6 c7 c8 c9 c10 c11 c12 c13) d h → Ends (EX D) (u_at kl_73) (38, [some (.ref a0), some (.int p1), some (.long p2), none, some (.int p3), none], [.int t6], h) QQ := by
        intro h hW
        have hF := hK
        refine en_segs [(38, .istore 5, []), (40, .aload_n 0, [])] (by decide +kernel) (y := (41, [some (.ref a0), some (.int p1), some (.long p2), none, some (.int p3), some (.int t6)], [.ref a0], h)) rfl ?_
        refine en_get (by decide +kernel : u_at kl_73 41 = some (.getfield 18, [7, 0])) hW ha0 (by decide) rfl ?_
        refine en_get (by decide +kernel : u_at kl_73 44 = some (.getfield 164, [6, 13])) hW k2 (by decide) rfl ?_
        refine en_segs [(47, .iload_n 1, []), (48, .dup2, [])] (by decide +kernel) (y := (49, [some (.ref a0), some (.int p1), some (.long p2), none, some (.int p3), some (.int t6)], [.int p1, .ref (cR c6 13 (cR c7 0 a0)), .int p1, .ref (cR c6 13 (cR c7 0 a0))], h)) rfl ?_
        obtain ⟨v8, hv8, hF⟩ := ob_some hF
        refine en_flald (by decide +kernel : u_at kl_73 49 = some (.laload, [])) hW k3 hv8 ?_
        refine en_segs [(50, .lload_n 2, []), (51, .ladd, [])] (by decide +kernel) (y := (52, [some (.ref a0), some (.int p1), some (.long p2), none, some (.int p3), some (.int t6)], [.long (v8 + p2), .int p1, .ref (cR c6 13 (cR c7 0 a0))], h)) rfl ?_
        obtain ⟨c13_9, hc13_9, hF⟩ := ob_some hF
        refine en_flast (by decide +kernel : u_at kl_73 52 = some (.lastore, [])) hW k3 hc13_9 (fun h hW => ?_)
        have hW : HW (mkw c0 c1 c2 c3 c4 c5 c6 c7 c8 c9 c10 c11 c12 c13_9) d h := hW
        refine en_segs [(53, .iload 5, [])] (by decide +kernel) (y := (55, [some (.ref a0), some (.int p1), some (.long p2), none, some (.int p3), some (.int t6)], [.int t6], h)) rfl ?_
        refine en_if_eq (by decide +kernel : u_at kl_73 55 = some (.ifCond .eq 21, [76])) (fun b10 => ?_) (fun b10 => ?_)
        · replace hF := i_pos b10 hF
          refine en_segs [(76, .iload 4, [])] (by decide +kernel) (y := (78, [some (.ref a0), some (.int p1), some (.long p2), none, some (.int p3), some (.int t6)], [.int p3], h)) rfl ?_
          obtain rfl := Option.some.inj hF
          exact en_ret (by decide +kernel : u_at kl_73 78 = some (.ireturn, [0])) rfl (hQ _ hW)
        · replace hF := i_neg b10 hF
          refine en_segs [(58, .iload 4, [])] (by decide +kernel) (y := (60, [some (.ref a0), some (.int p1), some (.long p2), none, some (.int p3), some (.int t6)], [.int p3], h)) rfl ?_
          refine en_if_lt (by decide +kernel : u_at kl_73 60 = some (.ifCond .lt 16, [76])) (fun b11 => ?_) (fun b11 => ?_)
          · replace hF := i_pos b11 hF
            refine en_segs [(76, .iload 4, [])] (by decide +kernel) (y := (78, [some (.ref a0), some (.int p1), some (.long p2), none, some (.int p3), some (.int t6)], [.int p3], h)) rfl ?_
            obtain rfl := Option.some.inj hF
            exact en_ret (by decide +kernel : u_at kl_73 78 = some (.ireturn, [0])) rfl (hQ _ hW)
          · replace hF := i_neg b11 hF
            refine en_segs [(63, .iload 4, []), (65, .aload_n 0, [])] (by decide +kernel) (y := (66, [some (.ref a0), some (.int p1), some (.long p2), none, some (.int p3), some (.int t6)], [.ref a0, .int p3], h)) rfl ?_
            refine en_get (by decide +kernel : u_at kl_73 66 = some (.getfield 18, [7, 0])) hW ha0 (by decide) rfl ?_
            have k12 : aK d (cR c6 15 (cR c7 0 a0)) = (2, 1, 0) := wf_free hW k2 (by decide) rfl
            refine en_get (by decide +kernel : u_at kl_73 69 = some (.getfield 167, [6, 15])) hW k2 (by decide) rfl ?_
            refine en_flen (by decide +kernel : u_at kl_73 72 = some (.arraylength, [])) hW k12 (by decide) ?_
            refine en_ic_lt (by decide +kernel : u_at kl_73 73 = some (.if_icmp .lt 6, [79])) (fun b13 => ?_) (fun b13 => ?_)
            · replace hF := i_pos b13 hF
              refine en_segs [(79, .aload_n 0, [])] (by decide +kernel) (y := (80, [some (.ref a0), some (.int p1), some (.long p2), none, some (.int p3), some (.int t6)], [.ref a0], h)) rfl ?_
              refine en_get (by decide +kernel : u_at kl_73 80 = some (.getfield 18, [7, 0])) hW ha0 (by decide) rfl ?_
              refine en_get (by decide +kernel : u_at kl_73 83 = some (.getfield 167, [6, 15])) hW k2 (by decide) rfl ?_
              refine en_segs [(86, .iload 4, []), (88, .iload_n 1, [])] (by decide +kernel) (y := (89, [some (.ref a0), some (.int p1), some (.long p2), none, some (.int p3), some (.int t6)], [.int p1, .int p3, .ref (cR c6 15 (cR c7 0 a0))], h)) rfl ?_
              obtain ⟨c13_14, hc13_14, hF⟩ := ob_some hF
              refine en_fiast (by decide +kernel : u_at kl_73 89 = some (.iastore, [])) hW k12 hc13_14 (fun h hW => ?_)
              have hW : HW (mkw c0 c1 c2 c3 c4 c5 c6 c7 c8 c9 c10 c11 c12 c13_14) d h := hW
              refine en_segs [(90, .iload 4, []), (92, .iconst 1, []), (93, .iadd, [])] (by decide +kernel) (y := (94, [some (.ref a0), some (.int p1), some (.long p2), none, some (.int p3), some (.int t6)], [.int (p3 + 1)], h)) rfl ?_
              obtain rfl := Option.some.inj hF
              exact en_ret (by decide +kernel : u_at kl_73 94 = some (.ireturn, [0])) rfl (hQ _ hW)
            · replace hF := i_neg b13 hF
              refine en_segs [(76, .iload 4, [])] (by decide +kernel) (y := (78, [some (.ref a0), some (.int p1), some (.long p2), none, some (.int p3), some (.int t6)], [.int p3], h)) rfl ?_
              obtain rfl := Option.some.inj hF
              exact en_ret (by decide +kernel : u_at kl_73 78 = some (.ireturn, [0])) rfl (hQ _ hW)
      have hF := hX
      refine en_if_ne (by decide +kernel : u_at kl_73 30 = some (.ifCond .ne 7, [37])) (fun b15 => ?_) (fun b15 => ?_)
      · replace hF := i_pos b15 hF
        refine en_segs [(33, .iconst 1, []), (34, .goto 4, [38])] (by decide +kernel) (y := (38, [some (.ref a0), some (.int p1), some (.long p2), none, some (.int p3), none], [.int 1], h)) rfl ?_
        obtain rfl := Option.some.inj hF
        exact j7 _ hW
      · replace hF := i_neg b15 hF
        refine en_segs [(37, .iconst 0, [])] (by decide +kernel) (y := (38, [some (.ref a0), some (.int p1), some (.long p2), none, some (.int p3), none], [.int 0], h)) rfl ?_
        obtain rfl := Option.some.inj hF
        exact j7 _ hW
    · replace hF := i_neg b4 hF
      refine en_segs [(16, .iload 4, [])] (by decide +kernel) (y := (18, [some (.ref a0), some (.int p1), some (.long p2), none, some (.int p3), none], [.int p3], h)) rfl ?_
      obtain rfl := Option.some.inj hF
      exact en_ret (by decide +kernel : u_at kl_73 18 = some (.ireturn, [0])) rfl (hQ _ hW)
def G_72 (c6 : Cl) (c7 : Cl) (d : Ad) (a0 : Nat) (lab : Nat) (xs : List Int32) (ys : List Int64) (zs : List Nat) (c13 : Cl) : Option (Int32 × Cl × Cl) := match lab, xs, ys, zs with
  | 0, [x1, x5, x6], [y2], [] =>
    if (cI c6 1 (cR c7 0 a0)) ≤ x6 then
    some (x5, c6, c13)
    else
    G_72 c6 c7 d a0 1 [x1, x5, x6, 0] [y2] [] c13
  | 1, [x1, x5, x6, x7], [y2], [] =>
    if (cI c6 0 (cR c7 0 a0)) ≤ x7 then
    G_72 c6 c7 d a0 0 [x1, x5, x6 + 1] [y2] [] c13
    else
    F_60 c6 (cR c7 0 a0) x6 x7 >>= fun r7 =>
    ((if r7 = 0 then
    some (x5, c13)
    else
    ald (cA c6 10 (cR c7 0 a0)) 6 x6 >>= fun v11 =>
    ald (cA c6 6 (cR c7 0 a0)) 6 x6 >>= fun v12 =>
    F_73 c6 c7 c13 d a0 (x1 + ((x7 - v11) * v12)) y2 x5 >>= fun r13 =>
    some (r13.1, r13.2)) : Option (Int32 × Cl)) >>= fun (t8 : Int32 × Cl) =>
    G_72 c6 c7 d a0 1 [x1, t8.1, x6, x7 + 1] [y2] [] t8.2
  | _, _, _, _ => none
partial_fixpoint
set_option maxRecDepth 100000 in
set_option maxHeartbeats 4000000 in
theorem g_72 {D : Nat} (hD : 3 ≤ D + 1) {c0 c1 c2 c3 c4 c5 c6 c7 c8 c9 c10 c11 c12 : Cl} {d : Ad} {a0 : Nat} (ha0 : aK d a0 = (0, 7, 0)) : ∀ (lab : Nat) (xs : List Int32) (ys : List Int64) (zs : List Nat) (c13 : Cl) (r : (Int32 × Cl × Cl)), G_72 c6 c7 d a0 lab xs ys zs c13 = some r →
    (∀ (x1 : Int32) (x5 : Int32) (x6 : Int32) (y2 : Int64), lab = 0 → xs = [x1, x5, x6] → ys = [y2] → zs = [] → ∀ h : UH, HW (mkw c0 c1 c2 c3 c4 c5 c6 c7 c8 c9 c10 c11 c12 c13) d h → ∀ QQ : UR → Prop, (∀ h' : UH, HW (mkw c0 c1 c2 c3 c4 c5 r.2.1 c7 c8 c9 c10 c11 c12 r.2.2) d h' → QQ (some (.int r.1), h')) → Ends (EX D) (u_at kl_72) (15, [some (.ref a0), some (.int x1), some (.long y2), none, none, some (.int x5), some (.int x6), none], [], h) QQ) ∧
    (∀ (x1 : Int32) (x5 : Int32) (x6 : Int32) (x7 : Int32) (y2 : Int64), lab = 1 → xs = [x1, x5, x6, x7] → ys = [y2] → zs = [] → ∀ h : UH, HW (mkw c0 c1 c2 c3 c4 c5 c6 c7 c8 c9 c10 c11 c12 c13) d h → ∀ QQ : UR → Prop, (∀ h' : UH, HW (mkw c0 c1 c2 c3 c4 c5 r.2.1 c7 c8 c9 c10 c11 c12 r.2.2) d h' → QQ (some (.int r.1), h')) → Ends (EX D) (u_at kl_72) (30, [some (.ref a0), some (.int x1), some (.long y2), none, none, some (.int x5), some (.int x6), some (.int x7)], [], h) QQ) := by
  refine G_72.partial_correctness _ _ _ _ (motive := fun lab xs ys zs c13 r =>
    (∀ (x1 : Int32) (x5 : Int32) (x6 : Int32) (y2 : Int64), lab = 0 → xs = [x1, x5, x6] → ys = [y2] → zs = [] → ∀ h : UH, HW (mkw c0 c1 c2 c3 c4 c5 c6 c7 c8 c9 c10 c11 c12 c13) d h → ∀ QQ : UR → Prop, (∀ h' : UH, HW (mkw c0 c1 c2 c3 c4 c5 r.2.1 c7 c8 c9 c10 c11 c12 r.2.2) d h' → QQ (some (.int r.1), h')) → Ends (EX D) (u_at kl_72) (15, [some (.ref a0), some (.int x1), some (.long y2), none, none, some (.int x5), some (.int x6), none], [], h) QQ) ∧
    (∀ (x1 : Int32) (x5 : Int32) (x6 : Int32) (x7 : Int32) (y2 : Int64), lab = 1 → xs = [x1, x5, x6, x7] → ys = [y2] → zs = [] → ∀ h : UH, HW (mkw c0 c1 c2 c3 c4 c5 c6 c7 c8 c9 c10 c11 c12 c13) d h → ∀ QQ : UR → Prop, (∀ h' : UH, HW (mkw c0 c1 c2 c3 c4 c5 r.2.1 c7 c8 c9 c10 c11 c12 r.2.2) d h' → QQ (some (.int r.1), h')) → Ends (EX D) (u_at kl_72) (30, [some (.ref a0), some (.int x1), some (.long y2), none, none, some (.int x5), some (.int x6), some (.int x7)], [], h) QQ)) ?_
  intro G ih lab xs ys zs c13 r hF
  refine ⟨?_, ?_⟩
  · intro x1 x5 x6 y2 e1 e2 e3 e4 h hW QQ hQ
    subst e1 e2 e3 e4
    refine en_segs [(15, .iload 6, []), (17, .aload_n 0, [])] (by decide +kernel) (y := (18, [some (.ref a0), some (.int x1), some (.long y2), none, none, some (.int x5), some (.int x6), none], [.ref a0, .int x6], h)) rfl ?_
    have k3 : aK d (cR c7 0 a0) = (0, 6, 0) := wf_obj hW ha0 (by decide) rfl
    refine en_get (by decide +kernel : u_at kl_72 18 = some (.getfield 18, [7, 0])) hW ha0 (by decide) rfl ?_
    refine en_get (by decide +kernel : u_at kl_72 21 = some (.getfield 71, [6, 1])) hW k3 (by decide) rfl ?_
    refine en_ic_ge (by decide +kernel : u_at kl_72 24 = some (.if_icmp .ge 79, [103])) (fun b4 => ?_) (fun b4 => ?_)
    · replace hF := i_pos b4 hF
      refine en_segs [(103, .iload 5, [])] (by decide +kernel) (y := (105, [some (.ref a0), some (.int x1), some (.long y2), none, none, some (.int x5), some (.int x6), none], [.int x5], h)) rfl ?_
      obtain rfl := Option.some.inj hF
      exact en_ret (by decide +kernel : u_at kl_72 105 = some (.ireturn, [0])) rfl (hQ _ hW)
    · replace hF := i_neg b4 hF
      refine en_segs [(27, .iconst 0, []), (28, .istore 7, [])] (by decide +kernel) (y := (30, [some (.ref a0), some (.int x1), some (.long y2), none, none, some (.int x5), some (.int x6), some (.int 0)], [], h)) rfl ?_
      exact (ih _ _ _ _ _ _ hF).2 _ _ _ _ _ rfl rfl rfl rfl  _ hW _ hQ
  · intro x1 x5 x6 x7 y2 e1 e2 e3 e4 h hW QQ hQ
    subst e1 e2 e3 e4
    refine en_segs [(30, .iload 7, []), (32, .aload_n 0, [])] (by decide +kernel) (y := (33, [some (.ref a0), some (.int x1), some (.long y2), none, none, some (.int x5), some (.int x6), some (.int x7)], [.ref a0, .int x7], h)) rfl ?_
    have k5 : aK d (cR c7 0 a0) = (0, 6, 0) := wf_obj hW ha0 (by decide) rfl
    refine en_get (by decide +kernel : u_at kl_72 33 = some (.getfield 18, [7, 0])) hW ha0 (by decide) rfl ?_
    refine en_get (by decide +kernel : u_at kl_72 36 = some (.getfield 80, [6, 0])) hW k5 (by decide) rfl ?_
    refine en_ic_ge (by decide +kernel : u_at kl_72 39 = some (.if_icmp .ge 58, [97])) (fun b6 => ?_) (fun b6 => ?_)
    · replace hF := i_pos b6 hF
      refine en_segs [(97, .iinc 6 1, []), (100, .goto (-85), [15])] (by decide +kernel) (y := (15, [some (.ref a0), some (.int x1), some (.long y2), none, none, some (.int x5), some (.int (x6 + 1)), some (.int x7)], [], h)) rfl ?_
      refine en_fg (fg_k (fg_k (fg_k (fg_k (fg_k (fg_k (fg_k (fg_d fg_0)))))))) ?_
      exact (ih _ _ _ _ _ _ hF).1 _ _ _ _ rfl rfl rfl rfl  _ hW _ hQ
    · replace hF := i_neg b6 hF
      refine en_segs [(42, .aload_n 0, [])] (by decide +kernel) (y := (43, [some (.ref a0), some (.int x1), some (.long y2), none, none, some (.int x5), some (.int x6), some (.int x7)], [.ref a0], h)) rfl ?_
      refine en_get (by decide +kernel : u_at kl_72 43 = some (.getfield 18, [7, 0])) hW ha0 (by decide) rfl ?_
      refine en_segs [(46, .iload 6, []), (48, .iload 7, [])] (by decide +kernel) (y := (50, [some (.ref a0), some (.int x1), some (.long y2), none, none, some (.int x5), some (.int x6), some (.int x7)], [.int x7, .int x6, .ref (cR c7 0 a0)], h)) rfl ?_
      obtain ⟨r7, hr7, hF⟩ := ob_some hF
      refine en_vi (r := []) (by decide +kernel : u_at kl_72 50 = some (.invokevirtual 157, [60, 2, 6])) hW k5 rfl rfl (Nat.le_of_ble_eq_true rfl) (e_60 (D := D) (by omega) hW k5 hr7) (fun h' q => ?_)
      subst q
      obtain ⟨t8, hX, hK⟩ := ob_some hF
      have j9 : ∀ h : UH, HW (mkw c0 c1 c2 c3 c4 c5 c6 c7 c8 c9 c10 c11 c12 t8.2) d h → Ends (EX D) (u_at kl_72) (91, [some (.ref a0), some (.int x1), some (.long y2), none, none, some (.int t8.1), some (.int x6), some (.int x7)], [], h) QQ := by
        intro h hW
        have hF := hK
        refine en_segs [(91, .iinc 7 1, []), (94, .goto (-64), [30])] (by decide +kernel) (y := (30, [some (.ref a0), some (.int x1), some (.long y2), none, none, some (.int t8.1), some (.int x6), some (.int (x7 + 1))], [], h)) rfl ?_
        exact (ih _ _ _ _ _ _ hF).2 _ _ _ _ _ rfl rfl rfl rfl  _ hW _ hQ
      have hF := hX
      refine en_if_eq (by decide +kernel : u_at kl_72 53 = some (.ifCond .eq 38, [91])) (fun b10 => ?_) (fun b10 => ?_)
      · replace hF := i_pos b10 hF
        obtain rfl := Option.some.inj hF
        exact j9 _ hW
      · replace hF := i_neg b10 hF
        refine en_segs [(56, .aload_n 0, []), (57, .iload_n 1, []), (58, .iload 7, []), (60, .aload_n 0, [])] (by decide +kernel) (y := (61, [some (.ref a0), some (.int x1), some (.long y2), none, none, some (.int x5), some (.int x6), some (.int x7)], [.ref a0, .int x7, .int x1, .ref a0], h)) rfl ?_
        refine en_get (by decide +kernel : u_at kl_72 61 = some (.getfield 18, [7, 0])) hW ha0 (by decide) rfl ?_
        refine en_get (by decide +kernel : u_at kl_72 64 = some (.getfield 77, [6, 10])) hW k5 (by decide) rfl ?_
        refine en_segs [(67, .iload 6, [])] (by decide +kernel) (y := (69, [some (.ref a0), some (.int x1), some (.long y2), none, none, some (.int x5), some (.int x6), some (.int x7)], [.int x6, .ref (aP d 6 10 (cR c7 0 a0)), .int x7, .int x1, .ref a0], h)) rfl ?_
        obtain ⟨v11, hv11, hF⟩ := ob_some hF
        refine en_iald (by decide +kernel : u_at kl_72 69 = some (.iaload, [])) hW k5 rfl (by decide) hv11 ?_
        refine en_segs [(70, .isub, []), (71, .aload_n 0, [])] (by decide +kernel) (y := (72, [some (.ref a0), some (.int x1), some (.long y2), none, none, some (.int x5), some (.int x6), some (.int x7)], [.ref a0, .int (x7 - v11), .int x1, .ref a0], h)) rfl ?_
        refine en_get (by decide +kernel : u_at kl_72 72 = some (.getfield 18, [7, 0])) hW ha0 (by decide) rfl ?_
        refine en_get (by decide +kernel : u_at kl_72 75 = some (.getfield 161, [6, 6])) hW k5 (by decide) rfl ?_
        refine en_segs [(78, .iload 6, [])] (by decide +kernel) (y := (80, [some (.ref a0), some (.int x1), some (.long y2), none, none, some (.int x5), some (.int x6), some (.int x7)], [.int x6, .ref (aP d 6 6 (cR c7 0 a0)), .int (x7 - v11), .int x1, .ref a0], h)) rfl ?_
        obtain ⟨v12, hv12, hF⟩ := ob_some hF
        refine en_iald (by decide +kernel : u_at kl_72 80 = some (.iaload, [])) hW k5 rfl (by decide) hv12 ?_
        refine en_segs [(81, .imul, []), (82, .iadd, []), (83, .lload_n 2, []), (84, .iload 5, [])] (by decide +kernel) (y := (86, [some (.ref a0), some (.int x1), some (.long y2), none, none, some (.int x5), some (.int x6), some (.int x7)], [.int x5, .long y2, .int (x1 + ((x7 - v11) * v12)), .ref a0], h)) rfl ?_
        obtain ⟨r13, hr13, hF⟩ := ob_some hF
        refine en_vi (r := []) (by decide +kernel : u_at kl_72 86 = some (.invokevirtual 147, [73, 3, 7])) hW ha0 rfl rfl (Nat.le_of_ble_eq_true rfl) (e_73 (D := D) (by omega) hW ha0 hr13) (fun h hW => ?_)
        have hW : HW (mkw c0 c1 c2 c3 c4 c5 c6 c7 c8 c9 c10 c11 c12 r13.2) d h := hW
        refine en_segs [(89, .istore 5, [])] (by decide +kernel) (y := (91, [some (.ref a0), some (.int x1), some (.long y2), none, none, some (.int r13.1), some (.int x6), some (.int x7)], [], h)) rfl ?_
        obtain rfl := Option.some.inj hF
        exact j9 _ hW
def F_72 (c6 : Cl) (c7 : Cl) (c13 : Cl) (d : Ad) (a0 : Nat) (p1 : Int32) (p2 : Int64) (p3 : Int32) : Option (Int32 × Cl × Cl) :=
  F_57 c6 (cR c7 0 a0) p1 >>= fun r2 =>
  G_72 r2 c7 d a0 0 [p1, p3, 0] [p2] [] c13
set_option maxRecDepth 100000 in
set_option maxHeartbeats 4000000 in
/-- HeadCounts$Search.spread -/
theorem e_72 {D : Nat} {c0 c1 c2 c3 c4 c5 c6 c7 c8 c9 c10 c11 c12 c13 : Cl} {d : Ad} {h : UH} {a0 : Nat} {p1 : Int32} {p2 : Int64} {p3 : Int32} {r : (Int32 × Cl × Cl)} (hD : 3 ≤ D) (hW : HW (mkw c0 c1 c2 c3 c4 c5 c6 c7 c8 c9 c10 c11 c12 c13) d h) (ha0 : aK d a0 = (0, 7, 0)) (hF : F_72 c6 c7 c13 d a0 p1 p2 p3 = some r) : ∃ q, EX D 72 [.ref a0, .int p1, .long p2, .int p3] h q ∧ q.1 = some (.int r.1) ∧ HW (mkw c0 c1 c2 c3 c4 c5 r.2.1 c7 c8 c9 c10 c11 c12 r.2.2) d q.2 := by
  obtain ⟨D, rfl⟩ : ∃ E, D = E + 1 := ⟨D - 1, by omega⟩
  unfold F_72 at hF
  refine ex_in (kl := kl_72) (nL := 8) rfl (by decide +kernel) (Nat.le_of_ble_eq_true rfl) ?_
  obtain ⟨QQ, hQQ⟩ : ∃ QQ : UR → Prop, QQ = (fun q : UR => q.1 = some (.int r.1) ∧ HW (mkw c0 c1 c2 c3 c4 c5 r.2.1 c7 c8 c9 c10 c11 c12 r.2.2) d q.2) := ⟨_, rfl⟩
  rw [← hQQ]
  have hQ : ∀ h' : UH, HW (mkw c0 c1 c2 c3 c4 c5 r.2.1 c7 c8 c9 c10 c11 c12 r.2.2) d h' → QQ (some (.int r.1), h') := fun h' p => by rw [hQQ]; exact ⟨rfl, p⟩
  clear hQQ
  show Ends (EX D) (u_at kl_72) (0, [some (.ref a0), some (.int p1), some (.long p2), none, some (.int p3), none, none, none], [], h) QQ
  refine en_segs [(0, .iload 4, []), (2, .istore 5, []), (4, .aload_n 0, [])] (by decide +kernel) (y := (5, [some (.ref a0), some (.int p1), some (.long p2), none, some (.int p3), some (.int p3), none, none], [.ref a0], h)) rfl ?_
  have k1 : aK d (cR c7 0 a0) = (0, 6, 0) := wf_obj hW ha0 (by decide) rfl
  refine en_get (by decide +kernel : u_at kl_72 5 = some (.getfield 18, [7, 0])) hW ha0 (by decide) rfl ?_
  refine en_segs [(8, .iload_n 1, [])] (by decide +kernel) (y := (9, [some (.ref a0), some (.int p1), some (.long p2), none, some (.int p3), some (.int p3), none, none], [.int p1, .ref (cR c7 0 a0)], h)) rfl ?_
  obtain ⟨r2, hr2, hF⟩ := ob_some hF
  refine en_vv (r := []) (by decide +kernel : u_at kl_72 9 = some (.invokevirtual 68, [57, 1, 6])) hW k1 rfl rfl (Nat.le_of_ble_eq_true rfl) (e_57 (D := D) (by omega) hW k1 hr2) (fun h hW => ?_)
  have hW : HW (mkw c0 c1 c2 c3 c4 c5 r2 c7 c8 c9 c10 c11 c12 c13) d h := hW
  refine en_segs [(12, .iconst 0, []), (13, .istore 6, [])] (by decide +kernel) (y := (15, [some (.ref a0), some (.int p1), some (.long p2), none, some (.int p3), some (.int p3), some (.int 0), none], [], h)) rfl ?_
  refine en_fg (fg_k (fg_k (fg_k (fg_k (fg_d (fg_k (fg_k (fg_k fg_0)))))))) ?_
  exact (g_72 (D := D) hD ha0 _ _ _ _ _ _ hF).1 _ _ _ _ rfl rfl rfl rfl  _ hW _ hQ
def G_71 (c7 : Cl) (d : Ad) (a0 : Nat) (lab : Nat) (xs : List Int32) (ys : List Int64) (zs : List Nat) (c6 : Cl) (c13 : Cl) : Option (Int32 × Cl × Cl × Ad) := match lab, xs, ys, zs with
  | 0, [x1, x2, x3], [], [] =>
    if x1 ≤ x3 then
    F_55 c6 (cR c7 0 a0) >>= fun r7 =>
    some (x2, r7, c13, d)
    else
    ald (cA c13 0 (cR c6 14 (cR c7 0 a0))) (aN d (cR c6 14 (cR c7 0 a0))) x3 >>= fun v10 =>
    ldl (cB c13 0 (cR c6 12 (cR c7 0 a0))) (aN d (cR c6 12 (cR c7 0 a0))) v10 >>= fun v12 =>
    stl c13 0 (cR c6 12 (cR c7 0 a0)) (aN d (cR c6 12 (cR c7 0 a0))) v10 0 >>= fun c13_13 =>
    F_73 c6 c7 c13_13 d a0 v10 v12 x2 >>= fun r14 =>
    F_72 c6 c7 r14.2 d a0 v10 v12 r14.1 >>= fun r15 =>
    G_71 c7 d a0 0 [x1, r15.1, x3 + 1] [] [] r15.2.1 r15.2.2
  | _, _, _, _ => none
partial_fixpoint
set_option maxRecDepth 100000 in
set_option maxHeartbeats 4000000 in
theorem g_71 {D : Nat} (hD : 4 ≤ D + 1) {c0 c1 c2 c3 c4 c5 c7 c8 c9 c10 c11 c12 : Cl} {d : Ad} {a0 : Nat} (ha0 : aK d a0 = (0, 7, 0)) : ∀ (lab : Nat) (xs : List Int32) (ys : List Int64) (zs : List Nat) (c6 : Cl) (c13 : Cl) (r : (Int32 × Cl × Cl × Ad)), G_71 c7 d a0 lab xs ys zs c6 c13 = some r →
    (∀ (x1 : Int32) (x2 : Int32) (x3 : Int32), lab = 0 → xs = [x1, x2, x3] → ys = [] → zs = [] → ∀ h : UH, HW (mkw c0 c1 c2 c3 c4 c5 c6 c7 c8 c9 c10 c11 c12 c13) d h → ∀ QQ : UR → Prop, (∀ h' : UH, HX d (mkw c0 c1 c2 c3 c4 c5 r.2.1 c7 c8 c9 c10 c11 c12 r.2.2.1) r.2.2.2 h' → QQ (some (.int r.1), h')) → Ends (EX D) (u_at kl_71) (11, [some (.ref a0), some (.int x1), some (.int x2), some (.int x3), none, none, none], [], h) QQ) := by
  refine G_71.partial_correctness _ _ _ (motive := fun lab xs ys zs c6 c13 r =>
    (∀ (x1 : Int32) (x2 : Int32) (x3 : Int32), lab = 0 → xs = [x1, x2, x3] → ys = [] → zs = [] → ∀ h : UH, HW (mkw c0 c1 c2 c3 c4 c5 c6 c7 c8 c9 c10 c11 c12 c13) d h → ∀ QQ : UR → Prop, (∀ h' : UH, HX d (mkw c0 c1 c2 c3 c4 c5 r.2.1 c7 c8 c9 c10 c11 c12 r.2.2.1) r.2.2.2 h' → QQ (some (.int r.1), h')) → Ends (EX D) (u_at kl_71) (11, [some (.ref a0), some (.int x1), some (.int x2), some (.int x3), none, none, none], [], h) QQ)) ?_
  intro G ih lab xs ys zs c6 c13 r hF
  · intro x1 x2 x3 e1 e2 e3 e4 h hW QQ hQ
    subst e1 e2 e3 e4
    refine en_segs [(11, .iload_n 3, []), (12, .iload_n 1, [])] (by decide +kernel) (y := (13, [some (.ref a0), some (.int x1), some (.int x2), some (.int x3), none, none, none], [.int x1, .int x3], h)) rfl ?_
    refine en_ic_ge (by decide +kernel : u_at kl_71 13 = some (.if_icmp .ge 63, [76])) (fun b5 => ?_) (fun b5 => ?_)
    · replace hF := i_pos b5 hF
      refine en_segs [(76, .aload_n 0, [])] (by decide +kernel) (y := (77, [some (.ref a0), some (.int x1), some (.int x2), some (.int x3), none, none, none], [.ref a0], h)) rfl ?_
      have k6 : aK d (cR c7 0 a0) = (0, 6, 0) := wf_obj hW ha0 (by decide) rfl
      refine en_get (by decide +kernel : u_at kl_71 77 = some (.getfield 18, [7, 0])) hW ha0 (by decide) rfl ?_
      obtain ⟨r7, hr7, hF⟩ := ob_some hF
      refine en_vv (r := []) (by decide +kernel : u_at kl_71 80 = some (.invokevirtual 154, [55, 0, 6])) hW k6 rfl rfl (Nat.le_of_ble_eq_true rfl) (e_55 (D := D) (by omega) hW k6 hr7) (fun h hW => ?_)
      have hW : HW (mkw c0 c1 c2 c3 c4 c5 r7 c7 c8 c9 c10 c11 c12 c13) d h := hW
      refine en_segs [(83, .iload_n 2, [])] (by decide +kernel) (y := (84, [some (.ref a0), some (.int x1), some (.int x2), some (.int x3), none, none, none], [.int x2], h)) rfl ?_
      obtain rfl := Option.some.inj hF
      exact en_ret (by decide +kernel : u_at kl_71 84 = some (.ireturn, [0])) rfl (hQ _ ⟨hW, Adx.rf⟩)
    · replace hF := i_neg b5 hF
      refine en_segs [(16, .aload_n 0, [])] (by decide +kernel) (y := (17, [some (.ref a0), some (.int x1), some (.int x2), some (.int x3), none, none, none], [.ref a0], h)) rfl ?_
      have k8 : aK d (cR c7 0 a0) = (0, 6, 0) := wf_obj hW ha0 (by decide) rfl
      refine en_get (by decide +kernel : u_at kl_71 17 = some (.getfield 18, [7, 0])) hW ha0 (by decide) rfl ?_
      have k9 : aK d (cR c6 14 (cR c7 0 a0)) = (2, 1, 0) := wf_free hW k8 (by decide) rfl
      refine en_get (by decide +kernel : u_at kl_71 20 = some (.getfield 55, [6, 14])) hW k8 (by decide) rfl ?_
      refine en_segs [(23, .iload_n 3, [])] (by decide +kernel) (y := (24, [some (.ref a0), some (.int x1), some (.int x2), some (.int x3), none, none, none], [.int x3, .ref (cR c6 14 (cR c7 0 a0))], h)) rfl ?_
      obtain ⟨v10, hv10, hF⟩ := ob_some hF
      refine en_fiald (by decide +kernel : u_at kl_71 24 = some (.iaload, [])) hW k9 hv10 ?_
      refine en_segs [(25, .istore 4, []), (27, .aload_n 0, [])] (by decide +kernel) (y := (28, [some (.ref a0), some (.int x1), some (.int x2), some (.int x3), some (.int v10), none, none], [.ref a0], h)) rfl ?_
      refine en_get (by decide +kernel : u_at kl_71 28 = some (.getfield 18, [7, 0])) hW ha0 (by decide) rfl ?_
      have k11 : aK d (cR c6 12 (cR c7 0 a0)) = (2, 2, 0) := wf_free hW k8 (by decide) rfl
      refine en_get (by decide +kernel : u_at kl_71 31 = some (.getfield 49, [6, 12])) hW k8 (by decide) rfl ?_
      refine en_segs [(34, .iload 4, [])] (by decide +kernel) (y := (36, [some (.ref a0), some (.int x1), some (.int x2), some (.int x3), some (.int v10), none, none], [.int v10, .ref (cR c6 12 (cR c7 0 a0))], h)) rfl ?_
      obtain ⟨v12, hv12, hF⟩ := ob_some hF
      refine en_flald (by decide +kernel : u_at kl_71 36 = some (.laload, [])) hW k11 hv12 ?_
      refine en_segs [(37, .lstore 5, []), (39, .aload_n 0, [])] (by decide +kernel) (y := (40, [some (.ref a0), some (.int x1), some (.int x2), some (.int x3), some (.int v10), some (.long v12), none], [.ref a0], h)) rfl ?_
      refine en_get (by decide +kernel : u_at kl_71 40 = some (.getfield 18, [7, 0])) hW ha0 (by decide) rfl ?_
      refine en_get (by decide +kernel : u_at kl_71 43 = some (.getfield 49, [6, 12])) hW k8 (by decide) rfl ?_
      refine en_segs [(46, .iload 4, []), (48, .lconst 0, [])] (by decide +kernel) (y := (49, [some (.ref a0), some (.int x1), some (.int x2), some (.int x3), some (.int v10), some (.long v12), none], [.long 0, .int v10, .ref (cR c6 12 (cR c7 0 a0))], h)) rfl ?_
      obtain ⟨c13_13, hc13_13, hF⟩ := ob_some hF
      refine en_flast (by decide +kernel : u_at kl_71 49 = some (.lastore, [])) hW k11 hc13_13 (fun h hW => ?_)
      have hW : HW (mkw c0 c1 c2 c3 c4 c5 c6 c7 c8 c9 c10 c11 c12 c13_13) d h := hW
      refine en_segs [(50, .aload_n 0, []), (51, .iload 4, []), (53, .lload 5, []), (55, .iload_n 2, [])] (by decide +kernel) (y := (56, [some (.ref a0), some (.int x1), some (.int x2), some (.int x3), some (.int v10), some (.long v12), none], [.int x2, .long v12, .int v10, .ref a0], h)) rfl ?_
      obtain ⟨r14, hr14, hF⟩ := ob_some hF
      refine en_vi (r := []) (by decide +kernel : u_at kl_71 56 = some (.invokevirtual 147, [73, 3, 7])) hW ha0 rfl rfl (Nat.le_of_ble_eq_true rfl) (e_73 (D := D) (by omega) hW ha0 hr14) (fun h hW => ?_)
      have hW : HW (mkw c0 c1 c2 c3 c4 c5 c6 c7 c8 c9 c10 c11 c12 r14.2) d h := hW
      refine en_segs [(59, .istore_n 2, []), (60, .aload_n 0, []), (61, .iload 4, []), (63, .lload 5, []), (65, .iload_n 2, [])] (by decide +kernel) (y := (66, [some (.ref a0), some (.int x1), some (.int r14.1), some (.int x3), some (.int v10), some (.long v12), none], [.int r14.1, .long v12, .int v10, .ref a0], h)) rfl ?_
      obtain ⟨r15, hr15, hF⟩ := ob_some hF
      refine en_vi (r := []) (by decide +kernel : u_at kl_71 66 = some (.invokevirtual 151, [72, 3, 7])) hW ha0 rfl rfl (Nat.le_of_ble_eq_true rfl) (e_72 (D := D) (by omega) hW ha0 hr15) (fun h hW => ?_)
      have hW : HW (mkw c0 c1 c2 c3 c4 c5 r15.2.1 c7 c8 c9 c10 c11 c12 r15.2.2) d h := hW
      refine en_segs [(69, .istore_n 2, []), (70, .iinc 3 1, []), (73, .goto (-62), [11])] (by decide +kernel) (y := (11, [some (.ref a0), some (.int x1), some (.int r15.1), some (.int (x3 + 1)), some (.int v10), some (.long v12), none], [], h)) rfl ?_
      refine en_fg (fg_k (fg_k (fg_k (fg_k (fg_d (fg_d (fg_k fg_0))))))) ?_
      exact (ih _ _ _ _ _ _ _ hF) _ _ _ rfl rfl rfl rfl  _ hW _ hQ
def F_71 (c6 : Cl) (c7 : Cl) (c13 : Cl) (d : Ad) (a0 : Nat) (p1 : Int32) : Option (Int32 × Cl × Cl × Ad) :=
  F_54 c6 c13 d (cR c7 0 a0) >>= fun r2 =>
  G_71 c7 r2.2.2 a0 0 [p1, 0, 0] [] [] r2.1 r2.2.1
set_option maxRecDepth 100000 in
set_option maxHeartbeats 4000000 in
/-- HeadCounts$Search.advance -/
theorem e_71 {D : Nat} {c0 c1 c2 c3 c4 c5 c6 c7 c8 c9 c10 c11 c12 c13 : Cl} {d : Ad} {h : UH} {a0 : Nat} {p1 : Int32} {r : (Int32 × Cl × Cl × Ad)} (hD : 4 ≤ D) (hW : HW (mkw c0 c1 c2 c3 c4 c5 c6 c7 c8 c9 c10 c11 c12 c13) d h) (ha0 : aK d a0 = (0, 7, 0)) (hF : F_71 c6 c7 c13 d a0 p1 = some r) : ∃ q, EX D 71 [.ref a0, .int p1] h q ∧ q.1 = some (.int r.1) ∧ HX d (mkw c0 c1 c2 c3 c4 c5 r.2.1 c7 c8 c9 c10 c11 c12 r.2.2.1) r.2.2.2 q.2 := by
  obtain ⟨D, rfl⟩ : ∃ E, D = E + 1 := ⟨D - 1, by omega⟩
  unfold F_71 at hF
  refine ex_in (kl := kl_71) (nL := 7) rfl (by decide +kernel) (Nat.le_of_ble_eq_true rfl) ?_
  obtain ⟨QQ, hQQ⟩ : ∃ QQ : UR → Prop, QQ = (fun q : UR => q.1 = some (.int r.1) ∧ HX d (mkw c0 c1 c2 c3 c4 c5 r.2.1 c7 c8 c9 c10 c11 c12 r.2.2.1) r.2.2.2 q.2) := ⟨_, rfl⟩
  rw [← hQQ]
  have hQ : ∀ h' : UH, HX d (mkw c0 c1 c2 c3 c4 c5 r.2.1 c7 c8 c9 c10 c11 c12 r.2.2.1) r.2.2.2 h' → QQ (some (.int r.1), h') := fun h' p => by rw [hQQ]; exact ⟨rfl, p⟩
  clear hQQ
  show Ends (EX D) (u_at kl_71) (0, [some (.ref a0), some (.int p1), none, none, none, none, none], [], h) QQ
  refine en_segs [(0, .iconst 0, []), (1, .istore_n 2, []), (2, .aload_n 0, [])] (by decide +kernel) (y := (3, [some (.ref a0), some (.int p1), some (.int 0), none, none, none, none], [.ref a0], h)) rfl ?_
  have k1 : aK d (cR c7 0 a0) = (0, 6, 0) := wf_obj hW ha0 (by decide) rfl
  refine en_get (by decide +kernel : u_at kl_71 3 = some (.getfield 18, [7, 0])) hW ha0 (by decide) rfl ?_
  obtain ⟨r2, hr2, hF⟩ := ob_some hF
  refine en_vv (r := []) (by decide +kernel : u_at kl_71 6 = some (.invokevirtual 144, [54, 0, 6])) hW k1 rfl rfl (Nat.le_of_ble_eq_true rfl) (e_54 (D := D) (by omega) hW k1 hr2) (fun h q => ?_)
  obtain ⟨hW, X3⟩ := q
  have ha0 := X3.o ha0
  have k1 := X3.o k1
  have A4 := X3
  have hW : HW (mkw c0 c1 c2 c3 c4 c5 r2.1 c7 c8 c9 c10 c11 c12 r2.2.1) r2.2.2 h := hW
  refine en_segs [(9, .iconst 0, []), (10, .istore_n 3, [])] (by decide +kernel) (y := (11, [some (.ref a0), some (.int p1), some (.int 0), some (.int 0), none, none, none], [], h)) rfl ?_
  exact (g_71 (D := D) hD ha0 _ _ _ _ _ _ _ hF) _ _ _ rfl rfl rfl rfl  _ hW _ (fun h' p => hQ h' ⟨p.1, A4.trans p.2⟩)
def G_68 (c1 : Cl) (c7 : Cl) (c8 : Cl) (c10 : Cl) (a0 : Nat) (a1 : Nat) (lab : Nat) (xs : List Int32) (ys : List Int64) (zs : List Nat) (c6 : Cl) (c13 : Cl) (d : Ad) : Option (Int32 × Cl × Cl × Ad) := match lab, xs, ys, zs with
  | 0, [x2, x3, x4], [], [] =>
    if x2 ≤ x4 then
    F_69 c6 c7 c10 c13 d a0 a1 x2 0 1 >>= fun r8 =>
    G_68 c1 c7 c8 c10 a0 a1 1 [x2, x3, r8.1, 1] [] [] r8.2.1 r8.2.2 d
    else
    ald (cA c10 6 a1) 12 x4 >>= fun v9 =>
    G_68 c1 c7 c8 c10 a0 a1 0 [x2, imax x3 v9, x4 + 1] [] [] c6 c13 d
  | 1, [x2, x3, x4, x5], [], [] =>
    if x3 < x5 then
    some (x4, c6, c13, d)
    else
    F_71 c6 c7 c13 d a0 x4 >>= fun r11 =>
    F_69 r11.2.1 c7 c10 r11.2.2.1 r11.2.2.2 a0 a1 x2 x5 r11.1 >>= fun r14 =>
    G_68 c1 c7 c8 c10 a0 a1 1 [x2, x3, r14.1, x5 + 1] [] [] r14.2.1 r14.2.2 r11.2.2.2
  | _, _, _, _ => none
partial_fixpoint
set_option maxRecDepth 100000 in
set_option maxHeartbeats 4000000 in
theorem g_68 {D : Nat} (hD : 5 ≤ D + 1) {c0 c1 c2 c3 c4 c5 c7 c8 c9 c10 c11 c12 : Cl} {a0 : Nat} {a1 : Nat} : ∀ (lab : Nat) (xs : List Int32) (ys : List Int64) (zs : List Nat) (c6 : Cl) (c13 : Cl) (d : Ad) (r : (Int32 × Cl × Cl × Ad)), G_68 c1 c7 c8 c10 a0 a1 lab xs ys zs c6 c13 d = some r →
    (∀ (x2 : Int32) (x3 : Int32) (x4 : Int32), lab = 0 → xs = [x2, x3, x4] → ys = [] → zs = [] → aK d a0 = (0, 7, 0) → aK d a1 = (0, 10, 0) → ∀ h : UH, HW (mkw c0 c1 c2 c3 c4 c5 c6 c7 c8 c9 c10 c11 c12 c13) d h → ∀ QQ : UR → Prop, (∀ h' : UH, HX d (mkw c0 c1 c2 c3 c4 c5 r.2.1 c7 c8 c9 c10 c11 c12 r.2.2.1) r.2.2.2 h' → QQ (some (.int r.1), h')) → Ends (EX D) (u_at kl_68) (23, [some (.ref a0), some (.ref a1), some (.int x2), some (.int x3), some (.int x4), none], [], h) QQ) ∧
    (∀ (x2 : Int32) (x3 : Int32) (x4 : Int32) (x5 : Int32), lab = 1 → xs = [x2, x3, x4, x5] → ys = [] → zs = [] → aK d a0 = (0, 7, 0) → aK d a1 = (0, 10, 0) → ∀ h : UH, HW (mkw c0 c1 c2 c3 c4 c5 c6 c7 c8 c9 c10 c11 c12 c13) d h → ∀ QQ : UR → Prop, (∀ h' : UH, HX d (mkw c0 c1 c2 c3 c4 c5 r.2.1 c7 c8 c9 c10 c11 c12 r.2.2.1) r.2.2.2 h' → QQ (some (.int r.1), h')) → Ends (EX D) (u_at kl_68) (60, [some (.ref a0), some (.ref a1), some (.int x2), some (.int x3), some (.int x4), some (.int x5)], [], h) QQ) := by
  refine G_68.partial_correctness _ _ _ _ _ _ (motive := fun lab xs ys zs c6 c13 d r =>
    (∀ (x2 : Int32) (x3 : Int32) (x4 : Int32), lab = 0 → xs = [x2, x3, x4] → ys = [] → zs = [] → aK d a0 = (0, 7, 0) → aK d a1 = (0, 10, 0) → ∀ h : UH, HW (mkw c0 c1 c2 c3 c4 c5 c6 c7 c8 c9 c10 c11 c12 c13) d h → ∀ QQ : UR → Prop, (∀ h' : UH, HX d (mkw c0 c1 c2 c3 c4 c5 r.2.1 c7 c8 c9 c10 c11 c12 r.2.2.1) r.2.2.2 h' → QQ (some (.int r.1), h')) → Ends (EX D) (u_at kl_68) (23, [some (.ref a0), some (.ref a1), some (.int x2), some (.int x3), some (.int x4), none], [], h) QQ) ∧
    (∀ (x2 : Int32) (x3 : Int32) (x4 : Int32) (x5 : Int32), lab = 1 → xs = [x2, x3, x4, x5] → ys = [] → zs = [] → aK d a0 = (0, 7, 0) → aK d a1 = (0, 10, 0) → ∀ h : UH, HW (mkw c0 c1 c2 c3 c4 c5 c6 c7 c8 c9 c10 c11 c12 c13) d h → ∀ QQ : UR → Prop, (∀ h' : UH, HX d (mkw c0 c1 c2 c3 c4 c5 r.2.1 c7 c8 c9 c10 c11 c12 r.2.2.1) r.2.2.2 h' → QQ (some (.int r.1), h')) → Ends (EX D) (u_at kl_68) (60, [some (.ref a0), some (.ref a1), some (.int x2), some (.int x3), some (.int x4), some (.int x5)], [], h) QQ)) ?_
  intro G ih lab xs ys zs c6 c13 d r hF
  refine ⟨?_, ?_⟩
  · intro x2 x3 x4 e1 e2 e3 e4 ha0 ha1 h hW QQ hQ
    subst e1 e2 e3 e4
    refine en_segs [(23, .iload 4, []), (25, .iload_n 2, [])] (by decide +kernel) (y := (26, [some (.ref a0), some (.ref a1), some (.int x2), some (.int x3), some (.int x4), none], [.int x2, .int x4], h)) rfl ?_
    refine en_ic_ge (by decide +kernel : u_at kl_68 26 = some (.if_icmp .ge 21, [47])) (fun b7 => ?_) (fun b7 => ?_)
    · replace hF := i_pos b7 hF
      refine en_segs [(47, .aload_n 0, []), (48, .aload_n 1, []), (49, .iload_n 2, []), (50, .iconst 0, []), (51, .iconst 1, [])] (by decide +kernel) (y := (52, [some (.ref a0), some (.ref a1), some (.int x2), some (.int x3), some (.int x4), none], [.int 1, .int 0, .int x2, .ref a1, .ref a0], h)) rfl ?_
      obtain ⟨r8, hr8, hF⟩ := ob_some hF
      refine en_vi (r := []) (by decide +kernel : u_at kl_68 52 = some (.invokevirtual 120, [69, 4, 7])) hW ha0 rfl rfl (Nat.le_of_ble_eq_true rfl) (e_69 (D := D) (by omega) hW ha0 ha1 hr8) (fun h hW => ?_)
      have hW : HW (mkw c0 c1 c2 c3 c4 c5 r8.2.1 c7 c8 c9 c10 c11 c12 r8.2.2) d h := hW
      refine en_segs [(55, .istore 4, []), (57, .iconst 1, []), (58, .istore 5, [])] (by decide +kernel) (y := (60, [some (.ref a0), some (.ref a1), some (.int x2), some (.int x3), some (.int r8.1), some (.int 1)], [], h)) rfl ?_
      exact (ih _ _ _ _ _ _ _ _ hF).2 _ _ _ _ rfl rfl rfl rfl  ha0 ha1 _ hW _ hQ
    · replace hF := i_neg b7 hF
      refine en_segs [(29, .iload_n 3, []), (30, .aload_n 1, [])] (by decide +kernel) (y := (31, [some (.ref a0), some (.ref a1), some (.int x2), some (.int x3), some (.int x4), none], [.ref a1, .int x3], h)) rfl ?_
      refine en_get (by decide +kernel : u_at kl_68 31 = some (.getfield 117, [10, 6])) hW ha1 (by decide) rfl ?_
      refine en_segs [(34, .iload 4, [])] (by decide +kernel) (y := (36, [some (.ref a0), some (.ref a1), some (.int x2), some (.int x3), some (.int x4), none], [.int x4, .ref (aP d 10 6 a1), .int x3], h)) rfl ?_
      obtain ⟨v9, hv9, hF⟩ := ob_some hF
      refine en_iald (by decide +kernel : u_at kl_68 36 = some (.iaload, [])) hW ha1 rfl (by decide) hv9 ?_
      refine en_si (r := []) (by decide +kernel : u_at kl_68 37 = some (.invokestatic 89, [301, 2])) rfl rfl (Nat.le_of_ble_eq_true rfl) (e_imax (D := D) (by omega)) (fun h' q => ?_)
      subst q
      refine en_segs [(40, .istore_n 3, []), (41, .iinc 4 1, []), (44, .goto (-21), [23])] (by decide +kernel) (y := (23, [some (.ref a0), some (.ref a1), some (.int x2), some (.int (imax x3 v9)), some (.int (x4 + 1)), none], [], h)) rfl ?_
      exact (ih _ _ _ _ _ _ _ _ hF).1 _ _ _ rfl rfl rfl rfl  ha0 ha1 _ hW _ hQ
  · intro x2 x3 x4 x5 e1 e2 e3 e4 ha0 ha1 h hW QQ hQ
    subst e1 e2 e3 e4
    refine en_segs [(60, .iload 5, []), (62, .iload_n 3, [])] (by decide +kernel) (y := (63, [some (.ref a0), some (.ref a1), some (.int x2), some (.int x3), some (.int x4), some (.int x5)], [.int x3, .int x5], h)) rfl ?_
    refine en_ic_gt (by decide +kernel : u_at kl_68 63 = some (.if_icmp .gt 29, [92])) (fun b10 => ?_) (fun b10 => ?_)
    · replace hF := i_pos b10 hF
      refine en_segs [(92, .iload 4, [])] (by decide +kernel) (y := (94, [some (.ref a0), some (.ref a1), some (.int x2), some (.int x3), some (.int x4), some (.int x5)], [.int x4], h)) rfl ?_
      obtain rfl := Option.some.inj hF
      exact en_ret (by decide +kernel : u_at kl_68 94 = some (.ireturn, [0])) rfl (hQ _ ⟨hW, Adx.rf⟩)
    · replace hF := i_neg b10 hF
      refine en_segs [(66, .aload_n 0, []), (67, .iload 4, [])] (by decide +kernel) (y := (69, [some (.ref a0), some (.ref a1), some (.int x2), some (.int x3), some (.int x4), some (.int x5)], [.int x4, .ref a0], h)) rfl ?_
      obtain ⟨r11, hr11, hF⟩ := ob_some hF
      refine en_vi (r := []) (by decide +kernel : u_at kl_68 69 = some (.invokevirtual 124, [71, 1, 7])) hW ha0 rfl rfl (Nat.le_of_ble_eq_true rfl) (e_71 (D := D) (by omega) hW ha0 hr11) (fun h q => ?_)
      obtain ⟨hW, X12⟩ := q
      have ha0 := X12.o ha0
      have ha1 := X12.o ha1
      have A13 := X12
      have hW : HW (mkw c0 c1 c2 c3 c4 c5 r11.2.1 c7 c8 c9 c10 c11 c12 r11.2.2.1) r11.2.2.2 h := hW
      refine en_segs [(72, .istore 4, []), (74, .aload_n 0, []), (75, .aload_n 1, []), (76, .iload_n 2, []), (77, .iload 5, []), (79, .iload 4, [])] (by decide +kernel) (y := (81, [some (.ref a0), some (.ref a1), some (.int x2), some (.int x3), some (.int r11.1), some (.int x5)], [.int r11.1, .int x5, .int x2, .ref a1, .ref a0], h)) rfl ?_
      obtain ⟨r14, hr14, hF⟩ := ob_some hF
      refine en_vi (r := []) (by decide +kernel : u_at kl_68 81 = some (.invokevirtual 120, [69, 4, 7])) hW ha0 rfl rfl (Nat.le_of_ble_eq_true rfl) (e_69 (D := D) (by omega) hW ha0 ha1 hr14) (fun h hW => ?_)
      have hW : HW (mkw c0 c1 c2 c3 c4 c5 r14.2.1 c7 c8 c9 c10 c11 c12 r14.2.2) r11.2.2.2 h := hW
      refine en_segs [(84, .istore 4, []), (86, .iinc 5 1, []), (89, .goto (-29), [60])] (by decide +kernel) (y := (60, [some (.ref a0), some (.ref a1), some (.int x2), some (.int x3), some (.int r14.1), some (.int (x5 + 1))], [], h)) rfl ?_
      exact (ih _ _ _ _ _ _ _ _ hF).2 _ _ _ _ rfl rfl rfl rfl  ha0 ha1 _ hW _ (fun h' p => hQ h' ⟨p.1, A13.trans p.2⟩)
def F_68 (c1 : Cl) (c6 : Cl) (c7 : Cl) (c8 : Cl) (c10 : Cl) (c13 : Cl) (d : Ad) (a0 : Nat) (a1 : Nat) (p2 : Int32) : Option (Int32 × Cl × Cl × Ad) :=
  F_51 c1 c6 c8 (cR c7 0 a0) (cR c10 0 a1) >>= fun r3 =>
  F_53 r3 c13 d (cR c7 0 a0) >>= fun r4 =>
  G_68 c1 c7 c8 c10 a0 a1 0 [p2, 0, 0] [] [] r4.1 r4.2.1 r4.2.2
set_option maxRecDepth 100000 in
set_option maxHeartbeats 4000000 in
/-- HeadCounts$Search.reach -/
theorem e_68 {D : Nat} {c0 c1 c2 c3 c4 c5 c6 c7 c8 c9 c10 c11 c12 c13 : Cl} {d : Ad} {h : UH} {a0 : Nat} {a1 : Nat} {p2 : Int32} {r : (Int32 × Cl × Cl × Ad)} (hD : 5 ≤ D) (hW : HW (mkw c0 c1 c2 c3 c4 c5 c6 c7 c8 c9 c10 c11 c12 c13) d h) (ha0 : aK d a0 = (0, 7, 0)) (ha1 : aK d a1 = (0, 10, 0)) (hF : F_68 c1 c6 c7 c8 c10 c13 d a0 a1 p2 = some r) : ∃ q, EX D 68 [.ref a0, .ref a1, .int p2] h q ∧ q.1 = some (.int r.1) ∧ HX d (mkw c0 c1 c2 c3 c4 c5 r.2.1 c7 c8 c9 c10 c11 c12 r.2.2.1) r.2.2.2 q.2 := by
  obtain ⟨D, rfl⟩ : ∃ E, D = E + 1 := ⟨D - 1, by omega⟩
  unfold F_68 at hF
  refine ex_in (kl := kl_68) (nL := 6) rfl (by decide +kernel) (Nat.le_of_ble_eq_true rfl) ?_
  obtain ⟨QQ, hQQ⟩ : ∃ QQ : UR → Prop, QQ = (fun q : UR => q.1 = some (.int r.1) ∧ HX d (mkw c0 c1 c2 c3 c4 c5 r.2.1 c7 c8 c9 c10 c11 c12 r.2.2.1) r.2.2.2 q.2) := ⟨_, rfl⟩
  rw [← hQQ]
  have hQ : ∀ h' : UH, HX d (mkw c0 c1 c2 c3 c4 c5 r.2.1 c7 c8 c9 c10 c11 c12 r.2.2.1) r.2.2.2 h' → QQ (some (.int r.1), h') := fun h' p => by rw [hQQ]; exact ⟨rfl, p⟩
  clear hQQ
  show Ends (EX D) (u_at kl_68) (0, [some (.ref a0), some (.ref a1), some (.int p2), none, none, none], [], h) QQ
  refine en_segs [(0, .aload_n 0, [])] (by decide +kernel) (y := (1, [some (.ref a0), some (.ref a1), some (.int p2), none, none, none], [.ref a0], h)) rfl ?_
  have k1 : aK d (cR c7 0 a0) = (0, 6, 0) := wf_obj hW ha0 (by decide) rfl
  refine en_get (by decide +kernel : u_at kl_68 1 = some (.getfield 18, [7, 0])) hW ha0 (by decide) rfl ?_
  refine en_segs [(4, .aload_n 1, [])] (by decide +kernel) (y := (5, [some (.ref a0), some (.ref a1), some (.int p2), none, none, none], [.ref a1, .ref (cR c7 0 a0)], h)) rfl ?_
  have k2 : aK d (cR c10 0 a1) = (0, 8, 0) := wf_obj hW ha1 (by decide) rfl
  refine en_get (by decide +kernel : u_at kl_68 5 = some (.getfield 106, [10, 0])) hW ha1 (by decide) rfl ?_
  obtain ⟨r3, hr3, hF⟩ := ob_some hF
  refine en_vv (r := []) (by decide +kernel : u_at kl_68 8 = some (.invokevirtual 110, [51, 1, 6])) hW k1 rfl rfl (Nat.le_of_ble_eq_true rfl) (e_51 (D := D) (by omega) hW k1 k2 hr3) (fun h hW => ?_)
  have hW : HW (mkw c0 c1 c2 c3 c4 c5 r3 c7 c8 c9 c10 c11 c12 c13) d h := hW
  refine en_segs [(11, .aload_n 0, [])] (by decide +kernel) (y := (12, [some (.ref a0), some (.ref a1), some (.int p2), none, none, none], [.ref a0], h)) rfl ?_
  refine en_get (by decide +kernel : u_at kl_68 12 = some (.getfield 18, [7, 0])) hW ha0 (by decide) rfl ?_
  obtain ⟨r4, hr4, hF⟩ := ob_some hF
  refine en_vv (r := []) (by decide +kernel : u_at kl_68 15 = some (.invokevirtual 114, [53, 0, 6])) hW k1 rfl rfl (Nat.le_of_ble_eq_true rfl) (e_53 (D := D) (by omega) hW k1 hr4) (fun h q => ?_)
  obtain ⟨hW, X5⟩ := q
  have ha0 := X5.o ha0
  have ha1 := X5.o ha1
  have k1 := X5.o k1
  have k2 := X5.o k2
  have A6 := X5
  have hW : HW (mkw c0 c1 c2 c3 c4 c5 r4.1 c7 c8 c9 c10 c11 c12 r4.2.1) r4.2.2 h := hW
  refine en_segs [(18, .iconst 0, []), (19, .istore_n 3, []), (20, .iconst 0, []), (21, .istore 4, [])] (by decide +kernel) (y := (23, [some (.ref a0), some (.ref a1), some (.int p2), some (.int 0), some (.int 0), none], [], h)) rfl ?_
  exact (g_68 (D := D) hD _ _ _ _ _ _ _ _ hF).1 _ _ _ rfl rfl rfl rfl  ha0 ha1 _ hW _ (fun h' p => hQ h' ⟨p.1, A6.trans p.2⟩)
def G_64 (c6 : Cl) (a0 : Nat) (lab : Nat) (xs : List Int32) (ys : List Int64) (zs : List Nat) (c7 : Cl) : Option (Cl × Cl) := match lab, xs, ys, zs with
  | 0, [x2], [], [] =>
    if (cI c6 1 (cR c7 0 a0)) ≤ x2 then
    G_64 c6 a0 1 [0] [] [] c7
    else
    ald (cA c6 4 (cR c7 0 a0)) 6 x2 >>= fun v5 =>
    ald (cA c7 6 a0) 6 v5 >>= fun v6 =>
    ald (cA c6 10 (cR c7 0 a0)) 6 x2 >>= fun v7 =>
    ast c7 6 a0 6 v5 (v6 ||| (1 <<< (v7 &&& 31))) >>= fun c7_8 =>
    G_64 c6 a0 0 [x2 + 1] [] [] c7_8
  | 1, [x2], [], [] =>
    if (cI c6 0 (cR c7 0 a0)) ≤ x2 then
    some (c6, c7)
    else
    ald (cA c6 11 (cR c7 0 a0)) 6 x2 >>= fun v11 =>
    ald (cA c7 7 a0) 150 ((x2 * 25) + v11) >>= fun v12 =>
    ast c7 7 a0 150 ((x2 * 25) + v11) (v12 + 1) >>= fun c7_13 =>
    G_64 c6 a0 1 [x2 + 1] [] [] c7_13
  | _, _, _, _ => none
partial_fixpoint
set_option maxRecDepth 100000 in
set_option maxHeartbeats 4000000 in
theorem g_64 {D : Nat} (hD : 3 ≤ D + 1) {c0 c1 c2 c3 c4 c5 c6 c8 c9 c10 c11 c12 c13 : Cl} {d : Ad} {a0 : Nat} (ha0 : aK d a0 = (0, 7, 0)) : ∀ (lab : Nat) (xs : List Int32) (ys : List Int64) (zs : List Nat) (c7 : Cl) (r : (Cl × Cl)), G_64 c6 a0 lab xs ys zs c7 = some r →
    (∀ (x2 : Int32), lab = 0 → xs = [x2] → ys = [] → zs = [] → ∀ h : UH, HW (mkw c0 c1 c2 c3 c4 c5 c6 c7 c8 c9 c10 c11 c12 c13) d h → ∀ QQ : UR → Prop, (∀ h' : UH, HW (mkw c0 c1 c2 c3 c4 c5 r.1 r.2 c8 c9 c10 c11 c12 c13) d h' → QQ (none, h')) → Ends (EX D) (u_at kl_64) (10, [some (.ref a0), none, some (.int x2)], [], h) QQ) ∧
    (∀ (x2 : Int32), lab = 1 → xs = [x2] → ys = [] → zs = [] → ∀ h : UH, HW (mkw c0 c1 c2 c3 c4 c5 c6 c7 c8 c9 c10 c11 c12 c13) d h → ∀ QQ : UR → Prop, (∀ h' : UH, HW (mkw c0 c1 c2 c3 c4 c5 r.1 r.2 c8 c9 c10 c11 c12 c13) d h' → QQ (none, h')) → Ends (EX D) (u_at kl_64) (57, [some (.ref a0), none, some (.int x2)], [], h) QQ) := by
  refine G_64.partial_correctness _ _ (motive := fun lab xs ys zs c7 r =>
    (∀ (x2 : Int32), lab = 0 → xs = [x2] → ys = [] → zs = [] → ∀ h : UH, HW (mkw c0 c1 c2 c3 c4 c5 c6 c7 c8 c9 c10 c11 c12 c13) d h → ∀ QQ : UR → Prop, (∀ h' : UH, HW (mkw c0 c1 c2 c3 c4 c5 r.1 r.2 c8 c9 c10 c11 c12 c13) d h' → QQ (none, h')) → Ends (EX D) (u_at kl_64) (10, [some (.ref a0), none, some (.int x2)], [], h) QQ) ∧
    (∀ (x2 : Int32), lab = 1 → xs = [x2] → ys = [] → zs = [] → ∀ h : UH, HW (mkw c0 c1 c2 c3 c4 c5 c6 c7 c8 c9 c10 c11 c12 c13) d h → ∀ QQ : UR → Prop, (∀ h' : UH, HW (mkw c0 c1 c2 c3 c4 c5 r.1 r.2 c8 c9 c10 c11 c12 c13) d h' → QQ (none, h')) → Ends (EX D) (u_at kl_64) (57, [some (.ref a0), none, some (.int x2)], [], h) QQ)) ?_
  intro G ih lab xs ys zs c7 r hF
  refine ⟨?_, ?_⟩
  · intro x2 e1 e2 e3 e4 h hW QQ hQ
    subst e1 e2 e3 e4
    refine en_segs [(10, .iload_n 2, []), (11, .aload_n 0, [])] (by decide +kernel) (y := (12, [some (.ref a0), none, some (.int x2)], [.ref a0, .int x2], h)) rfl ?_
    have k3 : aK d (cR c7 0 a0) = (0, 6, 0) := wf_obj hW ha0 (by decide) rfl
    refine en_get (by decide +kernel : u_at kl_64 12 = some (.getfield 18, [7, 0])) hW ha0 (by decide) rfl ?_
    refine en_get (by decide +kernel : u_at kl_64 15 = some (.getfield 71, [6, 1])) hW k3 (by decide) rfl ?_
    refine en_ic_ge (by decide +kernel : u_at kl_64 18 = some (.if_icmp .ge 37, [55])) (fun b4 => ?_) (fun b4 => ?_)
    · replace hF := i_pos b4 hF
      refine en_segs [(55, .iconst 0, []), (56, .istore_n 2, [])] (by decide +kernel) (y := (57, [some (.ref a0), none, some (.int 0)], [], h)) rfl ?_
      exact (ih _ _ _ _ _ _ hF).2 _ rfl rfl rfl rfl  _ hW _ hQ
    · replace hF := i_neg b4 hF
      refine en_segs [(21, .aload_n 0, [])] (by decide +kernel) (y := (22, [some (.ref a0), none, some (.int x2)], [.ref a0], h)) rfl ?_
      refine en_get (by decide +kernel : u_at kl_64 22 = some (.getfield 9, [7, 6])) hW ha0 (by decide) rfl ?_
      refine en_segs [(25, .aload_n 0, [])] (by decide +kernel) (y := (26, [some (.ref a0), none, some (.int x2)], [.ref a0, .ref (aP d 7 6 a0)], h)) rfl ?_
      refine en_get (by decide +kernel : u_at kl_64 26 = some (.getfield 18, [7, 0])) hW ha0 (by decide) rfl ?_
      refine en_get (by decide +kernel : u_at kl_64 29 = some (.getfield 74, [6, 4])) hW k3 (by decide) rfl ?_
      refine en_segs [(32, .iload_n 2, [])] (by decide +kernel) (y := (33, [some (.ref a0), none, some (.int x2)], [.int x2, .ref (aP d 6 4 (cR c7 0 a0)), .ref (aP d 7 6 a0)], h)) rfl ?_
      obtain ⟨v5, hv5, hF⟩ := ob_some hF
      refine en_iald (by decide +kernel : u_at kl_64 33 = some (.iaload, [])) hW k3 rfl (by decide) hv5 ?_
      refine en_segs [(34, .dup2, [])] (by decide +kernel) (y := (35, [some (.ref a0), none, some (.int x2)], [.int v5, .ref (aP d 7 6 a0), .int v5, .ref (aP d 7 6 a0)], h)) rfl ?_
      obtain ⟨v6, hv6, hF⟩ := ob_some hF
      refine en_iald (by decide +kernel : u_at kl_64 35 = some (.iaload, [])) hW ha0 rfl (by decide) hv6 ?_
      refine en_segs [(36, .iconst 1, []), (37, .aload_n 0, [])] (by decide +kernel) (y := (38, [some (.ref a0), none, some (.int x2)], [.ref a0, .int 1, .int v6, .int v5, .ref (aP d 7 6 a0)], h)) rfl ?_
      refine en_get (by decide +kernel : u_at kl_64 38 = some (.getfield 18, [7, 0])) hW ha0 (by decide) rfl ?_
      refine en_get (by decide +kernel : u_at kl_64 41 = some (.getfield 77, [6, 10])) hW k3 (by decide) rfl ?_
      refine en_segs [(44, .iload_n 2, [])] (by decide +kernel) (y := (45, [some (.ref a0), none, some (.int x2)], [.int x2, .ref (aP d 6 10 (cR c7 0 a0)), .int 1, .int v6, .int v5, .ref (aP d 7 6 a0)], h)) rfl ?_
      obtain ⟨v7, hv7, hF⟩ := ob_some hF
      refine en_iald (by decide +kernel : u_at kl_64 45 = some (.iaload, [])) hW k3 rfl (by decide) hv7 ?_
      refine en_segs [(46, .ishl, []), (47, .ior, [])] (by decide +kernel) (y := (48, [some (.ref a0), none, some (.int x2)], [.int (v6 ||| (1 <<< (v7 &&& 31))), .int v5, .ref (aP d 7 6 a0)], h)) rfl ?_
      obtain ⟨c7_8, hc7_8, hF⟩ := ob_some hF
      refine en_iast (by decide +kernel : u_at kl_64 48 = some (.iastore, [])) hW ha0 rfl (by decide) hc7_8 (fun h hW => ?_)
      have hW : HW (mkw c0 c1 c2 c3 c4 c5 c6 c7_8 c8 c9 c10 c11 c12 c13) d h := hW
      refine en_segs [(49, .iinc 2 1, []), (52, .goto (-42), [10])] (by decide +kernel) (y := (10, [some (.ref a0), none, some (.int (x2 + 1))], [], h)) rfl ?_
      exact (ih _ _ _ _ _ _ hF).1 _ rfl rfl rfl rfl  _ hW _ hQ
  · intro x2 e1 e2 e3 e4 h hW QQ hQ
    subst e1 e2 e3 e4
    refine en_segs [(57, .iload_n 2, []), (58, .aload_n 0, [])] (by decide +kernel) (y := (59, [some (.ref a0), none, some (.int x2)], [.ref a0, .int x2], h)) rfl ?_
    have k9 : aK d (cR c7 0 a0) = (0, 6, 0) := wf_obj hW ha0 (by decide) rfl
    refine en_get (by decide +kernel : u_at kl_64 59 = some (.getfield 18, [7, 0])) hW ha0 (by decide) rfl ?_
    refine en_get (by decide +kernel : u_at kl_64 62 = some (.getfield 80, [6, 0])) hW k9 (by decide) rfl ?_
    refine en_ic_ge (by decide +kernel : u_at kl_64 65 = some (.if_icmp .ge 32, [97])) (fun b10 => ?_) (fun b10 => ?_)
    · replace hF := i_pos b10 hF
      obtain rfl := Option.some.inj hF
      exact en_ret (by decide +kernel : u_at kl_64 97 = some (.return_, [])) rfl (hQ _ hW)
    · replace hF := i_neg b10 hF
      refine en_segs [(68, .aload_n 0, [])] (by decide +kernel) (y := (69, [some (.ref a0), none, some (.int x2)], [.ref a0], h)) rfl ?_
      refine en_get (by decide +kernel : u_at kl_64 69 = some (.getfield 15, [7, 7])) hW ha0 (by decide) rfl ?_
      refine en_segs [(72, .iload_n 2, []), (73, .bipush 25, []), (75, .imul, []), (76, .aload_n 0, [])] (by decide +kernel) (y := (77, [some (.ref a0), none, some (.int x2)], [.ref a0, .int (x2 * 25), .ref (aP d 7 7 a0)], h)) rfl ?_
      refine en_get (by decide +kernel : u_at kl_64 77 = some (.getfield 18, [7, 0])) hW ha0 (by decide) rfl ?_
      refine en_get (by decide +kernel : u_at kl_64 80 = some (.getfield 83, [6, 11])) hW k9 (by decide) rfl ?_
      refine en_segs [(83, .iload_n 2, [])] (by decide +kernel) (y := (84, [some (.ref a0), none, some (.int x2)], [.int x2, .ref (aP d 6 11 (cR c7 0 a0)), .int (x2 * 25), .ref (aP d 7 7 a0)], h)) rfl ?_
      obtain ⟨v11, hv11, hF⟩ := ob_some hF
      refine en_iald (by decide +kernel : u_at kl_64 84 = some (.iaload, [])) hW k9 rfl (by decide) hv11 ?_
      refine en_segs [(85, .iadd, []), (86, .dup2, [])] (by decide +kernel) (y := (87, [some (.ref a0), none, some (.int x2)], [.int ((x2 * 25) + v11), .ref (aP d 7 7 a0), .int ((x2 * 25) + v11), .ref (aP d 7 7 a0)], h)) rfl ?_
      obtain ⟨v12, hv12, hF⟩ := ob_some hF
      refine en_iald (by decide +kernel : u_at kl_64 87 = some (.iaload, [])) hW ha0 rfl (by decide) hv12 ?_
      refine en_segs [(88, .iconst 1, []), (89, .iadd, [])] (by decide +kernel) (y := (90, [some (.ref a0), none, some (.int x2)], [.int (v12 + 1), .int ((x2 * 25) + v11), .ref (aP d 7 7 a0)], h)) rfl ?_
      obtain ⟨c7_13, hc7_13, hF⟩ := ob_some hF
      refine en_iast (by decide +kernel : u_at kl_64 90 = some (.iastore, [])) hW ha0 rfl (by decide) hc7_13 (fun h hW => ?_)
      have hW : HW (mkw c0 c1 c2 c3 c4 c5 c6 c7_13 c8 c9 c10 c11 c12 c13) d h := hW
      refine en_segs [(91, .iinc 2 1, []), (94, .goto (-37), [57])] (by decide +kernel) (y := (57, [some (.ref a0), none, some (.int (x2 + 1))], [], h)) rfl ?_
      exact (ih _ _ _ _ _ _ hF).2 _ rfl rfl rfl rfl  _ hW _ hQ
def F_64 (c6 : Cl) (c7 : Cl) (a0 : Nat) (p1 : Int32) : Option (Cl × Cl) :=
  F_57 c6 (cR c7 0 a0) p1 >>= fun r2 =>
  G_64 r2 a0 0 [0] [] [] c7
set_option maxRecDepth 100000 in
set_option maxHeartbeats 4000000 in
/-- HeadCounts$Search.addEnd -/
theorem e_64 {D : Nat} {c0 c1 c2 c3 c4 c5 c6 c7 c8 c9 c10 c11 c12 c13 : Cl} {d : Ad} {h : UH} {a0 : Nat} {p1 : Int32} {r : (Cl × Cl)} (hD : 3 ≤ D) (hW : HW (mkw c0 c1 c2 c3 c4 c5 c6 c7 c8 c9 c10 c11 c12 c13) d h) (ha0 : aK d a0 = (0, 7, 0)) (hF : F_64 c6 c7 a0 p1 = some r) : ∃ q, EX D 64 [.ref a0, .int p1] h q ∧ q.1 = none ∧ HW (mkw c0 c1 c2 c3 c4 c5 r.1 r.2 c8 c9 c10 c11 c12 c13) d q.2 := by
  obtain ⟨D, rfl⟩ : ∃ E, D = E + 1 := ⟨D - 1, by omega⟩
  unfold F_64 at hF
  refine ex_in (kl := kl_64) (nL := 3) rfl (by decide +kernel) (Nat.le_of_ble_eq_true rfl) ?_
  obtain ⟨QQ, hQQ⟩ : ∃ QQ : UR → Prop, QQ = (fun q : UR => q.1 = none ∧ HW (mkw c0 c1 c2 c3 c4 c5 r.1 r.2 c8 c9 c10 c11 c12 c13) d q.2) := ⟨_, rfl⟩
  rw [← hQQ]
  have hQ : ∀ h' : UH, HW (mkw c0 c1 c2 c3 c4 c5 r.1 r.2 c8 c9 c10 c11 c12 c13) d h' → QQ (none, h') := fun h' p => by rw [hQQ]; exact ⟨rfl, p⟩
  clear hQQ
  show Ends (EX D) (u_at kl_64) (0, [some (.ref a0), some (.int p1), none], [], h) QQ
  refine en_segs [(0, .aload_n 0, [])] (by decide +kernel) (y := (1, [some (.ref a0), some (.int p1), none], [.ref a0], h)) rfl ?_
  have k1 : aK d (cR c7 0 a0) = (0, 6, 0) := wf_obj hW ha0 (by decide) rfl
  refine en_get (by decide +kernel : u_at kl_64 1 = some (.getfield 18, [7, 0])) hW ha0 (by decide) rfl ?_
  refine en_segs [(4, .iload_n 1, [])] (by decide +kernel) (y := (5, [some (.ref a0), some (.int p1), none], [.int p1, .ref (cR c7 0 a0)], h)) rfl ?_
  obtain ⟨r2, hr2, hF⟩ := ob_some hF
  refine en_vv (r := []) (by decide +kernel : u_at kl_64 5 = some (.invokevirtual 68, [57, 1, 6])) hW k1 rfl rfl (Nat.le_of_ble_eq_true rfl) (e_57 (D := D) (by omega) hW k1 hr2) (fun h hW => ?_)
  have hW : HW (mkw c0 c1 c2 c3 c4 c5 r2 c7 c8 c9 c10 c11 c12 c13) d h := hW
  refine en_segs [(8, .iconst 0, []), (9, .istore_n 2, [])] (by decide +kernel) (y := (10, [some (.ref a0), some (.int p1), some (.int 0)], [], h)) rfl ?_
  refine en_fg (fg_k (fg_d (fg_k fg_0))) ?_
  exact (g_64 (D := D) hD ha0 _ _ _ _ _ _ hF).1 _ rfl rfl rfl rfl  _ hW _ hQ
def G_65 (c6 : Cl) (a0 : Nat) (lab : Nat) (xs : List Int32) (ys : List Int64) (zs : List Nat) (c7 : Cl) : Option Cl := match lab, xs, ys, zs with
  | 0, [x1], [], [] =>
    if (cI c6 0 (cR c7 0 a0)) ≤ x1 then
    some c7
    else
    G_65 c6 a0 1 [x1, 0, 0] [] [] c7
  | 1, [x1, x2, x3], [], [] =>
    if 25 ≤ x3 then
    ((if (cI c7 4 a0) = (-1) then
    some (sI c7 4 a0 x1) >>= fun c7_8 =>
    some (sI c7_8 5 a0 x2) >>= fun c7_9 =>
    some c7_9
    else
    if (cI c7 5 a0) ≤ x2 then
    some c7
    else
    some (sI c7 4 a0 x1) >>= fun c7_11 =>
    some (sI c7_11 5 a0 x2) >>= fun c7_12 =>
    some c7_12) : Option (Cl)) >>= fun (t5 : Cl) =>
    G_65 c6 a0 0 [x1 + 1] [] [] t5
    else
    ald (cA c7 7 a0) 150 ((x1 * 25) + x3) >>= fun v13 =>
    G_65 c6 a0 1 [x1, imax x2 v13, x3 + 1] [] [] c7
  | _, _, _, _ => none
partial_fixpoint
set_option maxRecDepth 100000 in
set_option maxHeartbeats 4000000 in
theorem g_65 {D : Nat} (hD : 2 ≤ D + 1) {c0 c1 c2 c3 c4 c5 c6 c8 c9 c10 c11 c12 c13 : Cl} {d : Ad} {a0 : Nat} (ha0 : aK d a0 = (0, 7, 0)) : ∀ (lab : Nat) (xs : List Int32) (ys : List Int64) (zs : List Nat) (c7 : Cl) (r : Cl), G_65 c6 a0 lab xs ys zs c7 = some r →
    (∀ (x1 : Int32), lab = 0 → xs = [x1] → ys = [] → zs = [] → ∀ h : UH, HW (mkw c0 c1 c2 c3 c4 c5 c6 c7 c8 c9 c10 c11 c12 c13) d h → ∀ QQ : UR → Prop, (∀ h' : UH, HW (mkw c0 c1 c2 c3 c4 c5 c6 r c8 c9 c10 c11 c12 c13) d h' → QQ (none, h')) → Ends (EX D) (u_at kl_65) (7, [some (.ref a0), some (.int x1), none, none], [], h) QQ) ∧
    (∀ (x1 : Int32) (x2 : Int32) (x3 : Int32), lab = 1 → xs = [x1, x2, x3] → ys = [] → zs = [] → ∀ h : UH, HW (mkw c0 c1 c2 c3 c4 c5 c6 c7 c8 c9 c10 c11 c12 c13) d h → ∀ QQ : UR → Prop, (∀ h' : UH, HW (mkw c0 c1 c2 c3 c4 c5 c6 r c8 c9 c10 c11 c12 c13) d h' → QQ (none, h')) → Ends (EX D) (u_at kl_65) (22, [some (.ref a0), some (.int x1), some (.int x2), some (.int x3)], [], h) QQ) := by
  refine G_65.partial_correctness _ _ (motive := fun lab xs ys zs c7 r =>
    (∀ (x1 : Int32), lab = 0 → xs = [x1] → ys = [] → zs = [] → ∀ h : UH, HW (mkw c0 c1 c2 c3 c4 c5 c6 c7 c8 c9 c10 c11 c12 c13) d h → ∀ QQ : UR → Prop, (∀ h' : UH, HW (mkw c0 c1 c2 c3 c4 c5 c6 r c8 c9 c10 c11 c12 c13) d h' → QQ (none, h')) → Ends (EX D) (u_at kl_65) (7, [some (.ref a0), some (.int x1), none, none], [], h) QQ) ∧
    (∀ (x1 : Int32) (x2 : Int32) (x3 : Int32), lab = 1 → xs = [x1, x2, x3] → ys = [] → zs = [] → ∀ h : UH, HW (mkw c0 c1 c2 c3 c4 c5 c6 c7 c8 c9 c10 c11 c12 c13) d h → ∀ QQ : UR → Prop, (∀ h' : UH, HW (mkw c0 c1 c2 c3 c4 c5 c6 r c8 c9 c10 c11 c12 c13) d h' → QQ (none, h')) → Ends (EX D) (u_at kl_65) (22, [some (.ref a0), some (.int x1), some (.int x2), some (.int x3)], [], h) QQ)) ?_
  intro G ih lab xs ys zs c7 r hF
  refine ⟨?_, ?_⟩
  · intro x1 e1 e2 e3 e4 h hW QQ hQ
    subst e1 e2 e3 e4
    refine en_segs [(7, .iload_n 1, []), (8, .aload_n 0, [])] (by decide +kernel) (y := (9, [some (.ref a0), some (.int x1), none, none], [.ref a0, .int x1], h)) rfl ?_
    have k2 : aK d (cR c7 0 a0) = (0, 6, 0) := wf_obj hW ha0 (by decide) rfl
    refine en_get (by decide +kernel : u_at kl_65 9 = some (.getfield 18, [7, 0])) hW ha0 (by decide) rfl ?_
    refine en_get (by decide +kernel : u_at kl_65 12 = some (.getfield 80, [6, 0])) hW k2 (by decide) rfl ?_
    refine en_ic_ge (by decide +kernel : u_at kl_65 15 = some (.if_icmp .ge 67, [82])) (fun b3 => ?_) (fun b3 => ?_)
    · replace hF := i_pos b3 hF
      obtain rfl := Option.some.inj hF
      exact en_ret (by decide +kernel : u_at kl_65 82 = some (.return_, [])) rfl (hQ _ hW)
    · replace hF := i_neg b3 hF
      refine en_segs [(18, .iconst 0, []), (19, .istore_n 2, []), (20, .iconst 0, []), (21, .istore_n 3, [])] (by decide +kernel) (y := (22, [some (.ref a0), some (.int x1), some (.int 0), some (.int 0)], [], h)) rfl ?_
      exact (ih _ _ _ _ _ _ hF).2 _ _ _ rfl rfl rfl rfl  _ hW _ hQ
  · intro x1 x2 x3 e1 e2 e3 e4 h hW QQ hQ
    subst e1 e2 e3 e4
    refine en_segs [(22, .iload_n 3, []), (23, .bipush 25, [])] (by decide +kernel) (y := (25, [some (.ref a0), some (.int x1), some (.int x2), some (.int x3)], [.int 25, .int x3], h)) rfl ?_
    refine en_ic_ge (by decide +kernel : u_at kl_65 25 = some (.if_icmp .ge 25, [50])) (fun b4 => ?_) (fun b4 => ?_)
    · replace hF := i_pos b4 hF
      refine en_segs [(50, .aload_n 0, [])] (by decide +kernel) (y := (51, [some (.ref a0), some (.int x1), some (.int x2), some (.int x3)], [.ref a0], h)) rfl ?_
      refine en_get (by decide +kernel : u_at kl_65 51 = some (.getfield 86, [7, 4])) hW ha0 (by decide) rfl ?_
      refine en_segs [(54, .iconst (-1), [])] (by decide +kernel) (y := (55, [some (.ref a0), some (.int x1), some (.int x2), some (.int x3)], [.int (-1), .int (cI c7 4 a0)], h)) rfl ?_
      obtain ⟨t5, hX, hK⟩ := ob_some hF
      have j6 : ∀ h : UH, HW (mkw c0 c1 c2 c3 c4 c5 c6 t5 c8 c9 c10 c11 c12 c13) d h → Ends (EX D) (u_at kl_65) (76, [some (.ref a0), some (.int x1), some (.int x2), some (.int x3)], [], h) QQ := by
        intro h hW
        have hF := hK
        refine en_segs [(76, .iinc 1 1, []), (79, .goto (-72), [7])] (by decide +kernel) (y := (7, [some (.ref a0), some (.int (x1 + 1)), some (.int x2), some (.int x3)], [], h)) rfl ?_
        refine en_fg (fg_k (fg_k (fg_d (fg_d fg_0)))) ?_
        exact (ih _ _ _ _ _ _ hF).1 _ rfl rfl rfl rfl  _ hW _ hQ
      have hF := hX
      refine en_ic_eq (by decide +kernel : u_at kl_65 55 = some (.if_icmp .eq 11, [66])) (fun b7 => ?_) (fun b7 => ?_)
      · replace hF := i_pos b7 hF
        refine en_segs [(66, .aload_n 0, []), (67, .iload_n 1, [])] (by decide +kernel) (y := (68, [some (.ref a0), some (.int x1), some (.int x2), some (.int x3)], [.int x1, .ref a0], h)) rfl ?_
        obtain ⟨c7_8, hc7_8, hF⟩ := ob_some hF
        refine en_putI (by decide +kernel : u_at kl_65 68 = some (.putfield 86, [7, 4, 0])) hW ha0 rfl (by decide) rfl (fun h hW => ?_)
        have hW : HW (mkw c0 c1 c2 c3 c4 c5 c6 c7_8 c8 c9 c10 c11 c12 c13) d h := by rw [← Option.some.inj hc7_8]; exact hW
        refine en_segs [(71, .aload_n 0, []), (72, .iload_n 2, [])] (by decide +kernel) (y := (73, [some (.ref a0), some (.int x1), some (.int x2), some (.int x3)], [.int x2, .ref a0], h)) rfl ?_
        obtain ⟨c7_9, hc7_9, hF⟩ := ob_some hF
        refine en_putI (by decide +kernel : u_at kl_65 73 = some (.putfield 95, [7, 5, 0])) hW ha0 rfl (by decide) rfl (fun h hW => ?_)
        have hW : HW (mkw c0 c1 c2 c3 c4 c5 c6 c7_9 c8 c9 c10 c11 c12 c13) d h := by rw [← Option.some.inj hc7_9]; exact hW
        obtain rfl := Option.some.inj hF
        exact j6 _ hW
      · replace hF := i_neg b7 hF
        refine en_segs [(58, .iload_n 2, []), (59, .aload_n 0, [])] (by decide +kernel) (y := (60, [some (.ref a0), some (.int x1), some (.int x2), some (.int x3)], [.ref a0, .int x2], h)) rfl ?_
        refine en_get (by decide +kernel : u_at kl_65 60 = some (.getfield 95, [7, 5])) hW ha0 (by decide) rfl ?_
        refine en_ic_ge (by decide +kernel : u_at kl_65 63 = some (.if_icmp .ge 13, [76])) (fun b10 => ?_) (fun b10 => ?_)
        · replace hF := i_pos b10 hF
          obtain rfl := Option.some.inj hF
          exact j6 _ hW
        · replace hF := i_neg b10 hF
          refine en_segs [(66, .aload_n 0, []), (67, .iload_n 1, [])] (by decide +kernel) (y := (68, [some (.ref a0), some (.int x1), some (.int x2), some (.int x3)], [.int x1, .ref a0], h)) rfl ?_
          obtain ⟨c7_11, hc7_11, hF⟩ := ob_some hF
          refine en_putI (by decide +kernel : u_at kl_65 68 = some (.putfield 86, [7, 4, 0])) hW ha0 rfl (by decide) rfl (fun h hW => ?_)
          have hW : HW (mkw c0 c1 c2 c3 c4 c5 c6 c7_11 c8 c9 c10 c11 c12 c13) d h := by rw [← Option.some.inj hc7_11]; exact hW
          refine en_segs [(71, .aload_n 0, []), (72, .iload_n 2, [])] (by decide +kernel) (y := (73, [some (.ref a0), some (.int x1), some (.int x2), some (.int x3)], [.int x2, .ref a0], h)) rfl ?_
          obtain ⟨c7_12, hc7_12, hF⟩ := ob_some hF
          refine en_putI (by decide +kernel : u_at kl_65 73 = some (.putfield 95, [7, 5, 0])) hW ha0 rfl (by decide) rfl (fun h hW => ?_)
          have hW : HW (mkw c0 c1 c2 c3 c4 c5 c6 c7_12 c8 c9 c10 c11 c12 c13) d h := by rw [← Option.some.inj hc7_12]; exact hW
          obtain rfl := Option.some.inj hF
          exact j6 _ hW
    · replace hF := i_neg b4 hF
      refine en_segs [(28, .iload_n 2, []), (29, .aload_n 0, [])] (by decide +kernel) (y := (30, [some (.ref a0), some (.int x1), some (.int x2), some (.int x3)], [.ref a0, .int x2], h)) rfl ?_
      refine en_get (by decide +kernel : u_at kl_65 30 = some (.getfield 15, [7, 7])) hW ha0 (by decide) rfl ?_
      refine en_segs [(33, .iload_n 1, []), (34, .bipush 25, []), (36, .imul, []), (37, .iload_n 3, []), (38, .iadd, [])] (by decide +kernel) (y := (39, [some (.ref a0), some (.int x1), some (.int x2), some (.int x3)], [.int ((x1 * 25) + x3), .ref (aP d 7 7 a0), .int x2], h)) rfl ?_
      obtain ⟨v13, hv13, hF⟩ := ob_some hF
      refine en_iald (by decide +kernel : u_at kl_65 39 = some (.iaload, [])) hW ha0 rfl (by decide) hv13 ?_
      refine en_si (r := []) (by decide +kernel : u_at kl_65 40 = some (.invokestatic 89, [301, 2])) rfl rfl (Nat.le_of_ble_eq_true rfl) (e_imax (D := D) (by omega)) (fun h' q => ?_)
      subst q
      refine en_segs [(43, .istore_n 2, []), (44, .iinc 3 1, []), (47, .goto (-25), [22])] (by decide +kernel) (y := (22, [some (.ref a0), some (.int x1), some (.int (imax x2 v13)), some (.int (x3 + 1))], [], h)) rfl ?_
      exact (ih _ _ _ _ _ _ hF).2 _ _ _ rfl rfl rfl rfl  _ hW _ hQ
def F_65 (c6 : Cl) (c7 : Cl) (a0 : Nat) : Option Cl :=
  some (sI c7 4 a0 (-1)) >>= fun c7_1 =>
  G_65 c6 a0 0 [0] [] [] c7_1
set_option maxRecDepth 100000 in
set_option maxHeartbeats 4000000 in
/-- HeadCounts$Search.chooseParting -/
theorem e_65 {D : Nat} {c0 c1 c2 c3 c4 c5 c6 c7 c8 c9 c10 c11 c12 c13 : Cl} {d : Ad} {h : UH} {a0 : Nat} {r : Cl} (hD : 2 ≤ D) (hW : HW (mkw c0 c1 c2 c3 c4 c5 c6 c7 c8 c9 c10 c11 c12 c13) d h) (ha0 : aK d a0 = (0, 7, 0)) (hF : F_65 c6 c7 a0 = some r) : ∃ q, EX D 65 [.ref a0] h q ∧ q.1 = none ∧ HW (mkw c0 c1 c2 c3 c4 c5 c6 r c8 c9 c10 c11 c12 c13) d q.2 := by
  obtain ⟨D, rfl⟩ : ∃ E, D = E + 1 := ⟨D - 1, by omega⟩
  unfold F_65 at hF
  refine ex_in (kl := kl_65) (nL := 4) rfl (by decide +kernel) (Nat.le_of_ble_eq_true rfl) ?_
  obtain ⟨QQ, hQQ⟩ : ∃ QQ : UR → Prop, QQ = (fun q : UR => q.1 = none ∧ HW (mkw c0 c1 c2 c3 c4 c5 c6 r c8 c9 c10 c11 c12 c13) d q.2) := ⟨_, rfl⟩
  rw [← hQQ]
  have hQ : ∀ h' : UH, HW (mkw c0 c1 c2 c3 c4 c5 c6 r c8 c9 c10 c11 c12 c13) d h' → QQ (none, h') := fun h' p => by rw [hQQ]; exact ⟨rfl, p⟩
  clear hQQ
  show Ends (EX D) (u_at kl_65) (0, [some (.ref a0), none, none, none], [], h) QQ
  refine en_segs [(0, .aload_n 0, []), (1, .iconst (-1), [])] (by decide +kernel) (y := (2, [some (.ref a0), none, none, none], [.int (-1), .ref a0], h)) rfl ?_
  obtain ⟨c7_1, hc7_1, hF⟩ := ob_some hF
  refine en_putI (by decide +kernel : u_at kl_65 2 = some (.putfield 86, [7, 4, 0])) hW ha0 rfl (by decide) rfl (fun h hW => ?_)
  have hW : HW (mkw c0 c1 c2 c3 c4 c5 c6 c7_1 c8 c9 c10 c11 c12 c13) d h := by rw [← Option.some.inj hc7_1]; exact hW
  refine en_segs [(5, .iconst 0, []), (6, .istore_n 1, [])] (by decide +kernel) (y := (7, [some (.ref a0), some (.int 0), none, none], [], h)) rfl ?_
  exact (g_65 (D := D) hD ha0 _ _ _ _ _ _ hF).1 _ rfl rfl rfl rfl  _ hW _ hQ
