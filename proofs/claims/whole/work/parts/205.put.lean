def F_308 (c6 : Cl) (d : Ad) (a0 : Nat) (p1 : Int32) : Option Int32 :=
  ((if p1 < 0 then
  some 0
  else
  if (Int32.ofNat (aN d (cR c6 12 a0))) ≤ p1 then
  some 0
  else
  some 1) : Option (Int32)) >>= fun (t1 : Int32) =>
  zb t1 >>= fun z3 => some z3
set_option maxRecDepth 100000 in
set_option maxHeartbeats 4000000 in
/-- HeadCounts$Scene.isPlace -/
theorem e_308 {D : Nat} {c0 c1 c2 c3 c4 c5 c6 c7 c8 c9 c10 c11 c12 c13 : Cl} {d : Ad} {h : UH} {a0 : Nat} {p1 : Int32} {r : Int32} (hD : 1 ≤ D) (hW : HW (mkw c0 c1 c2 c3 c4 c5 c6 c7 c8 c9 c10 c11 c12 c13) d h) (ha0 : aK d a0 = (0, 6, 0)) (hF : F_308 c6 d a0 p1 = some r) : ∃ q, EX D 308 [.ref a0, .int p1] h q ∧ q.1 = some (.int r) ∧ h = q.2 := by
  obtain ⟨D, rfl⟩ : ∃ E, D = E + 1 := ⟨D - 1, by omega⟩
  unfold F_308 at hF
  refine ex_in (kl := kl_308) (nL := 2) rfl (by decide +kernel) (Nat.le_of_ble_eq_true rfl) ?_
  obtain ⟨QQ, hQQ⟩ : ∃ QQ : UR → Prop, QQ = (fun q : UR => q.1 = some (.int r) ∧ h = q.2) := ⟨_, rfl⟩
  rw [← hQQ]
  have hQ : QQ (some (.int r), h) := by rw [hQQ]; exact ⟨rfl, rfl⟩
  clear hQQ
  show Ends (EX D) (u_at kl_308) (0, [some (.ref a0), some (.int p1)], [], h) QQ
  refine en_segs [(0, .iload_n 1, [])] (by decide +kernel) (y := (1, [some (.ref a0), some (.int p1)], [.int p1], h)) rfl ?_
  obtain ⟨t1, hX, hK⟩ := ob_some hF
  have j2 : Ends (EX D) (u_at kl_308) (18, [some (.ref a0), some (.int p1)], [.int t1], h) QQ := by
    have hF := hK
    obtain ⟨z3, hz3, hF⟩ := ob_some hF
    obtain rfl := Option.some.inj hF
    exact en_retZ (by decide +kernel : u_at kl_308 18 = some (.ireturn, [1])) hz3 (hQ)
  have hF := hX
  refine en_if_lt (by decide +kernel : u_at kl_308 1 = some (.ifCond .lt 16, [17])) (fun b4 => ?_) (fun b4 => ?_)
  · replace hF := i_pos b4 hF
    refine en_segs [(17, .iconst 0, [])] (by decide +kernel) (y := (18, [some (.ref a0), some (.int p1)], [.int 0], h)) rfl ?_
    obtain rfl := Option.some.inj hF
    exact j2
  · replace hF := i_neg b4 hF
    refine en_segs [(4, .iload_n 1, []), (5, .aload_n 0, [])] (by decide +kernel) (y := (6, [some (.ref a0), some (.int p1)], [.ref a0, .int p1], h)) rfl ?_
    have k5 : aK d (cR c6 12 a0) = (2, 2, 0) := wf_free hW ha0 (by decide) rfl
    refine en_get (by decide +kernel : u_at kl_308 6 = some (.getfield 37, [6, 12])) hW ha0 (by decide) rfl ?_
    refine en_flen (by decide +kernel : u_at kl_308 9 = some (.arraylength, [])) hW k5 (by decide) ?_
    refine en_ic_ge (by decide +kernel : u_at kl_308 10 = some (.if_icmp .ge 7, [17])) (fun b6 => ?_) (fun b6 => ?_)
    · replace hF := i_pos b6 hF
      refine en_segs [(17, .iconst 0, [])] (by decide +kernel) (y := (18, [some (.ref a0), some (.int p1)], [.int 0], h)) rfl ?_
      obtain rfl := Option.some.inj hF
      exact j2
    · replace hF := i_neg b6 hF
      refine en_segs [(13, .iconst 1, []), (14, .goto 4, [18])] (by decide +kernel) (y := (18, [some (.ref a0), some (.int p1)], [.int 1], h)) rfl ?_
      obtain rfl := Option.some.inj hF
      exact j2
def F_309 (c6 : Cl) (c13 : Cl) (d : Ad) (a0 : Nat) (p1 : Int32) : Option Int32 :=
  F_308 c6 d a0 p1 >>= fun r1 =>
  ((if r1 = 0 then
  some 0
  else
  ldl (cB c13 0 (cR c6 12 a0)) (aN d (cR c6 12 a0)) p1 >>= fun v7 =>
  if (lg_cmp v7 0) = 0 then
  some 0
  else
  some 1) : Option (Int32)) >>= fun (t2 : Int32) =>
  zb t2 >>= fun z4 => some z4
set_option maxRecDepth 100000 in
set_option maxHeartbeats 4000000 in
/-- HeadCounts$Scene.isMarked -/
theorem e_309 {D : Nat} {c0 c1 c2 c3 c4 c5 c6 c7 c8 c9 c10 c11 c12 c13 : Cl} {d : Ad} {h : UH} {a0 : Nat} {p1 : Int32} {r : Int32} (hD : 2 ≤ D) (hW : HW (mkw c0 c1 c2 c3 c4 c5 c6 c7 c8 c9 c10 c11 c12 c13) d h) (ha0 : aK d a0 = (0, 6, 0)) (hF : F_309 c6 c13 d a0 p1 = some r) : ∃ q, EX D 309 [.ref a0, .int p1] h q ∧ q.1 = some (.int r) ∧ h = q.2 := by
  obtain ⟨D, rfl⟩ : ∃ E, D = E + 1 := ⟨D - 1, by omega⟩
  unfold F_309 at hF
  refine ex_in (kl := kl_309) (nL := 2) rfl (by decide +kernel) (Nat.le_of_ble_eq_true rfl) ?_
  obtain ⟨QQ, hQQ⟩ : ∃ QQ : UR → Prop, QQ = (fun q : UR => q.1 = some (.int r) ∧ h = q.2) := ⟨_, rfl⟩
  rw [← hQQ]
  have hQ : QQ (some (.int r), h) := by rw [hQQ]; exact ⟨rfl, rfl⟩
  clear hQQ
  show Ends (EX D) (u_at kl_309) (0, [some (.ref a0), some (.int p1)], [], h) QQ
  refine en_segs [(0, .aload_n 0, []), (1, .iload_n 1, [])] (by decide +kernel) (y := (2, [some (.ref a0), some (.int p1)], [.int p1, .ref a0], h)) rfl ?_
  obtain ⟨r1, hr1, hF⟩ := ob_some hF
  refine en_vi (r := []) (by decide +kernel : u_at kl_309 2 = some (.invokevirtual 110, [308, 1, 6])) hW ha0 rfl rfl (Nat.le_of_ble_eq_true rfl) (e_308 (D := D) (by omega) hW ha0 hr1) (fun h' q => ?_)
  subst q
  obtain ⟨t2, hX, hK⟩ := ob_some hF
  have j3 : Ends (EX D) (u_at kl_309) (24, [some (.ref a0), some (.int p1)], [.int t2], h) QQ := by
    have hF := hK
    obtain ⟨z4, hz4, hF⟩ := ob_some hF
    obtain rfl := Option.some.inj hF
    exact en_retZ (by decide +kernel : u_at kl_309 24 = some (.ireturn, [1])) hz4 (hQ)
  have hF := hX
  refine en_if_eq (by decide +kernel : u_at kl_309 5 = some (.ifCond .eq 18, [23])) (fun b5 => ?_) (fun b5 => ?_)
  · replace hF := i_pos b5 hF
    refine en_segs [(23, .iconst 0, [])] (by decide +kernel) (y := (24, [some (.ref a0), some (.int p1)], [.int 0], h)) rfl ?_
    obtain rfl := Option.some.inj hF
    exact j3
  · replace hF := i_neg b5 hF
    refine en_segs [(8, .aload_n 0, [])] (by decide +kernel) (y := (9, [some (.ref a0), some (.int p1)], [.ref a0], h)) rfl ?_
    have k6 : aK d (cR c6 12 a0) = (2, 2, 0) := wf_free hW ha0 (by decide) rfl
    refine en_get (by decide +kernel : u_at kl_309 9 = some (.getfield 37, [6, 12])) hW ha0 (by decide) rfl ?_
    refine en_segs [(12, .iload_n 1, [])] (by decide +kernel) (y := (13, [some (.ref a0), some (.int p1)], [.int p1, .ref (cR c6 12 a0)], h)) rfl ?_
    obtain ⟨v7, hv7, hF⟩ := ob_some hF
    refine en_flald (by decide +kernel : u_at kl_309 13 = some (.laload, [])) hW k6 hv7 ?_
    refine en_segs [(14, .lconst 0, []), (15, .lcmp, [])] (by decide +kernel) (y := (16, [some (.ref a0), some (.int p1)], [.int (lg_cmp v7 0)], h)) rfl ?_
    refine en_if_eq (by decide +kernel : u_at kl_309 16 = some (.ifCond .eq 7, [23])) (fun b8 => ?_) (fun b8 => ?_)
    · replace hF := i_pos b8 hF
      refine en_segs [(23, .iconst 0, [])] (by decide +kernel) (y := (24, [some (.ref a0), some (.int p1)], [.int 0], h)) rfl ?_
      obtain rfl := Option.some.inj hF
      exact j3
    · replace hF := i_neg b8 hF
      refine en_segs [(19, .iconst 1, []), (20, .goto 4, [24])] (by decide +kernel) (y := (24, [some (.ref a0), some (.int p1)], [.int 1], h)) rfl ?_
      obtain rfl := Option.some.inj hF
      exact j3
def F_310 (c6 : Cl) (a0 : Nat) (p1 : Int32) (p2 : Int32) : Option Int32 :=
  ald (cA c6 6 a0) 6 p2 >>= fun v1 =>
  ((if v1 ≤ 0 then
  some (-1)
  else
  if (cI c6 0 a0) ≤ 0 then
  some (-1)
  else
  idv p1 v1 >>= fun v6 =>
  irm v6 (cI c6 0 a0) >>= fun v7 =>
  some v7) : Option (Int32)) >>= fun (t2 : Int32) =>
  some t2
set_option maxRecDepth 100000 in
set_option maxHeartbeats 4000000 in
/-- HeadCounts$Scene.roomIn -/
theorem e_310 {D : Nat} {c0 c1 c2 c3 c4 c5 c6 c7 c8 c9 c10 c11 c12 c13 : Cl} {d : Ad} {h : UH} {a0 : Nat} {p1 : Int32} {p2 : Int32} {r : Int32} (hD : 1 ≤ D) (hW : HW (mkw c0 c1 c2 c3 c4 c5 c6 c7 c8 c9 c10 c11 c12 c13) d h) (ha0 : aK d a0 = (0, 6, 0)) (hF : F_310 c6 a0 p1 p2 = some r) : ∃ q, EX D 310 [.ref a0, .int p1, .int p2] h q ∧ q.1 = some (.int r) ∧ h = q.2 := by
  obtain ⟨D, rfl⟩ : ∃ E, D = E + 1 := ⟨D - 1, by omega⟩
  unfold F_310 at hF
  refine ex_in (kl := kl_310) (nL := 4) rfl (by decide +kernel) (Nat.le_of_ble_eq_true rfl) ?_
  obtain ⟨QQ, hQQ⟩ : ∃ QQ : UR → Prop, QQ = (fun q : UR => q.1 = some (.int r) ∧ h = q.2) := ⟨_, rfl⟩
  rw [← hQQ]
  have hQ : QQ (some (.int r), h) := by rw [hQQ]; exact ⟨rfl, rfl⟩
  clear hQQ
  show Ends (EX D) (u_at kl_310) (0, [some (.ref a0), some (.int p1), some (.int p2), none], [], h) QQ
  refine en_segs [(0, .aload_n 0, [])] (by decide +kernel) (y := (1, [some (.ref a0), some (.int p1), some (.int p2), none], [.ref a0], h)) rfl ?_
  refine en_get (by decide +kernel : u_at kl_310 1 = some (.getfield 18, [6, 6])) hW ha0 (by decide) rfl ?_
  refine en_segs [(4, .iload_n 2, [])] (by decide +kernel) (y := (5, [some (.ref a0), some (.int p1), some (.int p2), none], [.int p2, .ref (aP d 6 6 a0)], h)) rfl ?_
  obtain ⟨v1, hv1, hF⟩ := ob_some hF
  refine en_iald (by decide +kernel : u_at kl_310 5 = some (.iaload, [])) hW ha0 rfl (by decide) hv1 ?_
  refine en_segs [(6, .istore_n 3, []), (7, .iload_n 3, [])] (by decide +kernel) (y := (8, [some (.ref a0), some (.int p1), some (.int p2), some (.int v1)], [.int v1], h)) rfl ?_
  obtain ⟨t2, hX, hK⟩ := ob_some hF
  have j3 : Ends (EX D) (u_at kl_310) (30, [some (.ref a0), some (.int p1), some (.int p2), some (.int v1)], [.int t2], h) QQ := by
    have hF := hK
    obtain rfl := Option.some.inj hF
    exact en_ret (by decide +kernel : u_at kl_310 30 = some (.ireturn, [0])) rfl (hQ)
  have hF := hX
  refine en_if_le (by decide +kernel : u_at kl_310 8 = some (.ifCond .le 21, [29])) (fun b4 => ?_) (fun b4 => ?_)
  · replace hF := i_pos b4 hF
    refine en_segs [(29, .iconst (-1), [])] (by decide +kernel) (y := (30, [some (.ref a0), some (.int p1), some (.int p2), some (.int v1)], [.int (-1)], h)) rfl ?_
    obtain rfl := Option.some.inj hF
    exact j3
  · replace hF := i_neg b4 hF
    refine en_segs [(11, .aload_n 0, [])] (by decide +kernel) (y := (12, [some (.ref a0), some (.int p1), some (.int p2), some (.int v1)], [.ref a0], h)) rfl ?_
    refine en_get (by decide +kernel : u_at kl_310 12 = some (.getfield 61, [6, 0])) hW ha0 (by decide) rfl ?_
    refine en_if_le (by decide +kernel : u_at kl_310 15 = some (.ifCond .le 14, [29])) (fun b5 => ?_) (fun b5 => ?_)
    · replace hF := i_pos b5 hF
      refine en_segs [(29, .iconst (-1), [])] (by decide +kernel) (y := (30, [some (.ref a0), some (.int p1), some (.int p2), some (.int v1)], [.int (-1)], h)) rfl ?_
      obtain rfl := Option.some.inj hF
      exact j3
    · replace hF := i_neg b5 hF
      refine en_segs [(18, .iload_n 1, []), (19, .iload_n 3, [])] (by decide +kernel) (y := (20, [some (.ref a0), some (.int p1), some (.int p2), some (.int v1)], [.int v1, .int p1], h)) rfl ?_
      obtain ⟨v6, hv6, hF⟩ := ob_some hF
      refine en_idiv (by decide +kernel : u_at kl_310 20 = some (.idiv, [])) hv6 ?_
      refine en_segs [(21, .aload_n 0, [])] (by decide +kernel) (y := (22, [some (.ref a0), some (.int p1), some (.int p2), some (.int v1)], [.ref a0, .int v6], h)) rfl ?_
      refine en_get (by decide +kernel : u_at kl_310 22 = some (.getfield 61, [6, 0])) hW ha0 (by decide) rfl ?_
      obtain ⟨v7, hv7, hF⟩ := ob_some hF
      refine en_irem (by decide +kernel : u_at kl_310 25 = some (.irem, [])) hv7 ?_
      refine en_segs [(26, .goto 4, [30])] (by decide +kernel) (y := (30, [some (.ref a0), some (.int p1), some (.int p2), some (.int v1)], [.int v7], h)) rfl ?_
      obtain rfl := Option.some.inj hF
      exact j3
def F_307 (c6 : Cl) (c13 : Cl) (d : Ad) (a0 : Nat) (p1 : Int32) (p2 : Int64) (p3 : Int32) : Option (Int32 × Cl) :=
  F_308 c6 d a0 p1 >>= fun r1 =>
  if r1 = 0 then
  some (p3, c13)
  else
  if p3 < 0 then
  some (p3, c13)
  else
  if p3 < (Int32.ofNat (aN d (cR c6 14 a0))) then
  stl c13 0 (cR c6 12 a0) (aN d (cR c6 12 a0)) p1 p2 >>= fun c13_7 =>
  ast c13_7 0 (cR c6 14 a0) (aN d (cR c6 14 a0)) p3 p1 >>= fun c13_8 =>
  some (p3 + 1, c13_8)
  else
  some (p3, c13)
set_option maxRecDepth 100000 in
set_option maxHeartbeats 4000000 in
/-- HeadCounts$Scene.put -/
theorem e_307 {D : Nat} {c0 c1 c2 c3 c4 c5 c6 c7 c8 c9 c10 c11 c12 c13 : Cl} {d : Ad} {h : UH} {a0 : Nat} {p1 : Int32} {p2 : Int64} {p3 : Int32} {r : (Int32 × Cl)} (hD : 2 ≤ D) (hW : HW (mkw c0 c1 c2 c3 c4 c5 c6 c7 c8 c9 c10 c11 c12 c13) d h) (ha0 : aK d a0 = (0, 6, 0)) (hF : F_307 c6 c13 d a0 p1 p2 p3 = some r) : ∃ q, EX D 307 [.ref a0, .int p1, .long p2, .int p3] h q ∧ q.1 = some (.int r.1) ∧ HW (mkw c0 c1 c2 c3 c4 c5 c6 c7 c8 c9 c10 c11 c12 r.2) d q.2 := by
  obtain ⟨D, rfl⟩ : ∃ E, D = E + 1 := ⟨D - 1, by omega⟩
  unfold F_307 at hF
  refine ex_in (kl := kl_307) (nL := 5) rfl (by decide +kernel) (Nat.le_of_ble_eq_true rfl) ?_
  obtain ⟨QQ, hQQ⟩ : ∃ QQ : UR → Prop, QQ = (fun q : UR => q.1 = some (.int r.1) ∧ HW (mkw c0 c1 c2 c3 c4 c5 c6 c7 c8 c9 c10 c11 c12 r.2) d q.2) := ⟨_, rfl⟩
  rw [← hQQ]
  have hQ : ∀ h' : UH, HW (mkw c0 c1 c2 c3 c4 c5 c6 c7 c8 c9 c10 c11 c12 r.2) d h' → QQ (some (.int r.1), h') := fun h' p => by rw [hQQ]; exact ⟨rfl, p⟩
  clear hQQ
  show Ends (EX D) (u_at kl_307) (0, [some (.ref a0), some (.int p1), some (.long p2), none, some (.int p3)], [], h) QQ
  refine en_segs [(0, .aload_n 0, []), (1, .iload_n 1, [])] (by decide +kernel) (y := (2, [some (.ref a0), some (.int p1), some (.long p2), none, some (.int p3)], [.int p1, .ref a0], h)) rfl ?_
  obtain ⟨r1, hr1, hF⟩ := ob_some hF
  refine en_vi (r := []) (by decide +kernel : u_at kl_307 2 = some (.invokevirtual 110, [308, 1, 6])) hW ha0 rfl rfl (Nat.le_of_ble_eq_true rfl) (e_308 (D := D) (by omega) hW ha0 hr1) (fun h' q => ?_)
  subst q
  refine en_if_eq (by decide +kernel : u_at kl_307 5 = some (.ifCond .eq 18, [23])) (fun b2 => ?_) (fun b2 => ?_)
  · replace hF := i_pos b2 hF
    refine en_segs [(23, .iload 4, [])] (by decide +kernel) (y := (25, [some (.ref a0), some (.int p1), some (.long p2), none, some (.int p3)], [.int p3], h)) rfl ?_
    obtain rfl := Option.some.inj hF
    exact en_ret (by decide +kernel : u_at kl_307 25 = some (.ireturn, [0])) rfl (hQ _ hW)
  · replace hF := i_neg b2 hF
    refine en_segs [(8, .iload 4, [])] (by decide +kernel) (y := (10, [some (.ref a0), some (.int p1), some (.long p2), none, some (.int p3)], [.int p3], h)) rfl ?_
    refine en_if_lt (by decide +kernel : u_at kl_307 10 = some (.ifCond .lt 13, [23])) (fun b3 => ?_) (fun b3 => ?_)
    · replace hF := i_pos b3 hF
      refine en_segs [(23, .iload 4, [])] (by decide +kernel) (y := (25, [some (.ref a0), some (.int p1), some (.long p2), none, some (.int p3)], [.int p3], h)) rfl ?_
      obtain rfl := Option.some.inj hF
      exact en_ret (by decide +kernel : u_at kl_307 25 = some (.ireturn, [0])) rfl (hQ _ hW)
    · replace hF := i_neg b3 hF
      refine en_segs [(13, .iload 4, []), (15, .aload_n 0, [])] (by decide +kernel) (y := (16, [some (.ref a0), some (.int p1), some (.long p2), none, some (.int p3)], [.ref a0, .int p3], h)) rfl ?_
      have k4 : aK d (cR c6 14 a0) = (2, 1, 0) := wf_free hW ha0 (by decide) rfl
      refine en_get (by decide +kernel : u_at kl_307 16 = some (.getfield 43, [6, 14])) hW ha0 (by decide) rfl ?_
      refine en_flen (by decide +kernel : u_at kl_307 19 = some (.arraylength, [])) hW k4 (by decide) ?_
      refine en_ic_lt (by decide +kernel : u_at kl_307 20 = some (.if_icmp .lt 6, [26])) (fun b5 => ?_) (fun b5 => ?_)
      · replace hF := i_pos b5 hF
        refine en_segs [(26, .aload_n 0, [])] (by decide +kernel) (y := (27, [some (.ref a0), some (.int p1), some (.long p2), none, some (.int p3)], [.ref a0], h)) rfl ?_
        have k6 : aK d (cR c6 12 a0) = (2, 2, 0) := wf_free hW ha0 (by decide) rfl
        refine en_get (by decide +kernel : u_at kl_307 27 = some (.getfield 37, [6, 12])) hW ha0 (by decide) rfl ?_
        refine en_segs [(30, .iload_n 1, []), (31, .lload_n 2, [])] (by decide +kernel) (y := (32, [some (.ref a0), some (.int p1), some (.long p2), none, some (.int p3)], [.long p2, .int p1, .ref (cR c6 12 a0)], h)) rfl ?_
        obtain ⟨c13_7, hc13_7, hF⟩ := ob_some hF
        refine en_flast (by decide +kernel : u_at kl_307 32 = some (.lastore, [])) hW k6 hc13_7 (fun h hW => ?_)
        have hW : HW (mkw c0 c1 c2 c3 c4 c5 c6 c7 c8 c9 c10 c11 c12 c13_7) d h := hW
        refine en_segs [(33, .aload_n 0, [])] (by decide +kernel) (y := (34, [some (.ref a0), some (.int p1), some (.long p2), none, some (.int p3)], [.ref a0], h)) rfl ?_
        refine en_get (by decide +kernel : u_at kl_307 34 = some (.getfield 43, [6, 14])) hW ha0 (by decide) rfl ?_
        refine en_segs [(37, .iload 4, []), (39, .iload_n 1, [])] (by decide +kernel) (y := (40, [some (.ref a0), some (.int p1), some (.long p2), none, some (.int p3)], [.int p1, .int p3, .ref (cR c6 14 a0)], h)) rfl ?_
        obtain ⟨c13_8, hc13_8, hF⟩ := ob_some hF
        refine en_fiast (by decide +kernel : u_at kl_307 40 = some (.iastore, [])) hW k4 hc13_8 (fun h hW => ?_)
        have hW : HW (mkw c0 c1 c2 c3 c4 c5 c6 c7 c8 c9 c10 c11 c12 c13_8) d h := hW
        refine en_segs [(41, .iload 4, []), (43, .iconst 1, []), (44, .iadd, [])] (by decide +kernel) (y := (45, [some (.ref a0), some (.int p1), some (.long p2), none, some (.int p3)], [.int (p3 + 1)], h)) rfl ?_
        obtain rfl := Option.some.inj hF
        exact en_ret (by decide +kernel : u_at kl_307 45 = some (.ireturn, [0])) rfl (hQ _ hW)
      · replace hF := i_neg b5 hF
        refine en_segs [(23, .iload 4, [])] (by decide +kernel) (y := (25, [some (.ref a0), some (.int p1), some (.long p2), none, some (.int p3)], [.int p3], h)) rfl ?_
        obtain rfl := Option.some.inj hF
        exact en_ret (by decide +kernel : u_at kl_307 25 = some (.ireturn, [0])) rfl (hQ _ hW)
