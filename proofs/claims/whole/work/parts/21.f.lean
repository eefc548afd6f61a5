def F_223 (c12 : Cl) (a0 : Nat) (p1 : Int32) (p2 : Int32) : Option Int32 :=
  ald (cA c12 20 a0) 221 ((40 + (6 * p1)) + p2) >>= fun v1 =>
  some v1
set_option maxRecDepth 100000 in
set_option maxHeartbeats 4000000 in
/-- HeadCountsModel.headOf -/
theorem e_223 {D : Nat} {c0 c1 c2 c3 c4 c5 c6 c7 c8 c9 c10 c11 c12 c13 : Cl} {d : Ad} {h : UH} {a0 : Nat} {p1 : Int32} {p2 : Int32} {r : Int32} (hD : 1 ≤ D) (hW : HW (mkw c0 c1 c2 c3 c4 c5 c6 c7 c8 c9 c10 c11 c12 c13) d h) (ha0 : aK d a0 = (0, 12, 0)) (hF : F_223 c12 a0 p1 p2 = some r) : ∃ q, EX D 223 [.ref a0, .int p1, .int p2] h q ∧ q.1 = some (.int r) ∧ h = q.2 := by
  obtain ⟨D, rfl⟩ : ∃ E, D = E + 1 := ⟨D - 1, by omega⟩
  unfold F_223 at hF
  refine ex_in (kl := kl_223) (nL := 3) rfl (by decide +kernel) (Nat.le_of_ble_eq_true rfl) ?_
  obtain ⟨QQ, hQQ⟩ : ∃ QQ : UR → Prop, QQ = (fun q : UR => q.1 = some (.int r) ∧ h = q.2) := ⟨_, rfl⟩
  rw [← hQQ]
  have hQ : QQ (some (.int r), h) := by rw [hQQ]; exact ⟨rfl, rfl⟩
  clear hQQ
  show Ends (EX D) (u_at kl_223) (0, [some (.ref a0), some (.int p1), some (.int p2)], [], h) QQ
  refine en_segs [(0, .aload_n 0, [])] (by decide +kernel) (y := (1, [some (.ref a0), some (.int p1), some (.int p2)], [.ref a0], h)) rfl ?_
  refine en_get (by decide +kernel : u_at kl_223 1 = some (.getfield 39, [12, 20])) hW ha0 (by decide) rfl ?_
  refine en_segs [(4, .bipush 40, []), (6, .bipush 6, []), (8, .iload_n 1, []), (9, .imul, []), (10, .iadd, []), (11, .iload_n 2, []), (12, .iadd, [])] (by decide +kernel) (y := (13, [some (.ref a0), some (.int p1), some (.int p2)], [.int ((40 + (6 * p1)) + p2), .ref (aP d 12 20 a0)], h)) rfl ?_
  obtain ⟨v1, hv1, hF⟩ := ob_some hF
  refine en_iald (by decide +kernel : u_at kl_223 13 = some (.iaload, [])) hW ha0 rfl (by decide) hv1 ?_
  obtain rfl := Option.some.inj hF
  exact en_ret (by decide +kernel : u_at kl_223 14 = some (.ireturn, [0])) rfl (hQ)
def F_224 (c12 : Cl) (a0 : Nat) (p1 : Int32) : Option Int32 :=
  F_223 c12 a0 p1 5 >>= fun r1 =>
  (if 0 ≤ r1 then
  some 0
  else
  some 1) >>= fun t2 =>
  zb t2 >>= fun z4 => some z4
set_option maxRecDepth 100000 in
set_option maxHeartbeats 4000000 in
/-- HeadCountsModel.lives -/
theorem e_224 {D : Nat} {c0 c1 c2 c3 c4 c5 c6 c7 c8 c9 c10 c11 c12 c13 : Cl} {d : Ad} {h : UH} {a0 : Nat} {p1 : Int32} {r : Int32} (hD : 2 ≤ D) (hW : HW (mkw c0 c1 c2 c3 c4 c5 c6 c7 c8 c9 c10 c11 c12 c13) d h) (ha0 : aK d a0 = (0, 12, 0)) (hF : F_224 c12 a0 p1 = some r) : ∃ q, EX D 224 [.ref a0, .int p1] h q ∧ q.1 = some (.int r) ∧ h = q.2 := by
  obtain ⟨D, rfl⟩ : ∃ E, D = E + 1 := ⟨D - 1, by omega⟩
  unfold F_224 at hF
  refine ex_in (kl := kl_224) (nL := 2) rfl (by decide +kernel) (Nat.le_of_ble_eq_true rfl) ?_
  obtain ⟨QQ, hQQ⟩ : ∃ QQ : UR → Prop, QQ = (fun q : UR => q.1 = some (.int r) ∧ h = q.2) := ⟨_, rfl⟩
  rw [← hQQ]
  have hQ : QQ (some (.int r), h) := by rw [hQQ]; exact ⟨rfl, rfl⟩
  clear hQQ
  show Ends (EX D) (u_at kl_224) (0, [some (.ref a0), some (.int p1)], [], h) QQ
  refine en_segs [(0, .aload_n 0, []), (1, .iload_n 1, []), (2, .iconst 5, [])] (by decide +kernel) (y := (3, [some (.ref a0), some (.int p1)], [.int 5, .int p1, .ref a0], h)) rfl ?_
  obtain ⟨r1, hr1, hF⟩ := ob_some hF
  refine en_vi (r := []) (by decide +kernel : u_at kl_224 3 = some (.invokevirtual 343, [223, 2, 12])) hW ha0 rfl rfl (Nat.le_of_ble_eq_true rfl) (e_223 (D := D) (by omega) hW ha0 hr1) (fun h' q => ?_)
  subst q
  obtain ⟨t2, hX, hK⟩ := ob_some hF
  have j3 : Ends (EX D) (u_at kl_224) (14, [some (.ref a0), some (.int p1)], [.int t2], h) QQ := by
    have hF := hK
    obtain ⟨z4, hz4, hF⟩ := ob_some hF
    obtain rfl := Option.some.inj hF
    exact en_retZ (by decide +kernel : u_at kl_224 14 = some (.ireturn, [1])) hz4 (hQ)
  have hF := hX
  refine en_if_ge (by decide +kernel : u_at kl_224 6 = some (.ifCond .ge 7, [13])) (fun b5 => ?_) (fun b5 => ?_)
  · replace hF := i_pos b5 hF
    refine en_segs [(13, .iconst 0, [])] (by decide +kernel) (y := (14, [some (.ref a0), some (.int p1)], [.int 0], h)) rfl ?_
    obtain rfl := Option.some.inj hF
    exact j3
  · replace hF := i_neg b5 hF
    refine en_segs [(9, .iconst 1, []), (10, .goto 4, [14])] (by decide +kernel) (y := (14, [some (.ref a0), some (.int p1)], [.int 1], h)) rfl ?_
    obtain rfl := Option.some.inj hF
    exact j3
def F_225 (c12 : Cl) (a0 : Nat) (p1 : Int32) : Option Int32 :=
  F_224 c12 a0 p1 >>= fun r1 =>
  (if r1 = 0 then
  ald (cA c12 20 a0) 221 4 >>= fun v6 =>
  F_223 c12 a0 p1 5 >>= fun r7 =>
  if r7 ≤ v6 then
  some 0
  else
  some 1
  else
  some 1) >>= fun t2 =>
  zb t2 >>= fun z4 => some z4
set_option maxRecDepth 100000 in
set_option maxHeartbeats 4000000 in
/-- HeadCountsModel.isCounted -/
theorem e_225 {D : Nat} {c0 c1 c2 c3 c4 c5 c6 c7 c8 c9 c10 c11 c12 c13 : Cl} {d : Ad} {h : UH} {a0 : Nat} {p1 : Int32} {r : Int32} (hD : 3 ≤ D) (hW : HW (mkw c0 c1 c2 c3 c4 c5 c6 c7 c8 c9 c10 c11 c12 c13) d h) (ha0 : aK d a0 = (0, 12, 0)) (hF : F_225 c12 a0 p1 = some r) : ∃ q, EX D 225 [.ref a0, .int p1] h q ∧ q.1 = some (.int r) ∧ h = q.2 := by
  obtain ⟨D, rfl⟩ : ∃ E, D = E + 1 := ⟨D - 1, by omega⟩
  unfold F_225 at hF
  refine ex_in (kl := kl_225) (nL := 2) rfl (by decide +kernel) (Nat.le_of_ble_eq_true rfl) ?_
  obtain ⟨QQ, hQQ⟩ : ∃ QQ : UR → Prop, QQ = (fun q : UR => q.1 = some (.int r) ∧ h = q.2) := ⟨_, rfl⟩
  rw [← hQQ]
  have hQ : QQ (some (.int r), h) := by rw [hQQ]; exact ⟨rfl, rfl⟩
  clear hQQ
  show Ends (EX D) (u_at kl_225) (0, [some (.ref a0), some (.int p1)], [], h) QQ
  refine en_segs [(0, .aload_n 0, []), (1, .iload_n 1, [])] (by decide +kernel) (y := (2, [some (.ref a0), some (.int p1)], [.int p1, .ref a0], h)) rfl ?_
  obtain ⟨r1, hr1, hF⟩ := ob_some hF
  refine en_vi (r := []) (by decide +kernel : u_at kl_225 2 = some (.invokevirtual 346, [224, 1, 12])) hW ha0 rfl rfl (Nat.le_of_ble_eq_true rfl) (e_224 (D := D) (by omega) hW ha0 hr1) (fun h' q => ?_)
  subst q
  obtain ⟨t2, hX, hK⟩ := ob_some hF
  have j3 : Ends (EX D) (u_at kl_225) (28, [some (.ref a0), some (.int p1)], [.int t2], h) QQ := by
    have hF := hK
    obtain ⟨z4, hz4, hF⟩ := ob_some hF
    obtain rfl := Option.some.inj hF
    exact en_retZ (by decide +kernel : u_at kl_225 28 = some (.ireturn, [1])) hz4 (hQ)
  have hF := hX
  refine en_if_ne (by decide +kernel : u_at kl_225 5 = some (.ifCond .ne 18, [23])) (fun b5 => ?_) (fun b5 => ?_)
  · replace hF := i_pos b5 hF
    refine en_segs [(8, .aload_n 0, [])] (by decide +kernel) (y := (9, [some (.ref a0), some (.int p1)], [.ref a0], h)) rfl ?_
    refine en_get (by decide +kernel : u_at kl_225 9 = some (.getfield 39, [12, 20])) hW ha0 (by decide) rfl ?_
    refine en_segs [(12, .iconst 4, [])] (by decide +kernel) (y := (13, [some (.ref a0), some (.int p1)], [.int 4, .ref (aP d 12 20 a0)], h)) rfl ?_
    obtain ⟨v6, hv6, hF⟩ := ob_some hF
    refine en_iald (by decide +kernel : u_at kl_225 13 = some (.iaload, [])) hW ha0 rfl (by decide) hv6 ?_
    refine en_segs [(14, .aload_n 0, []), (15, .iload_n 1, []), (16, .iconst 5, [])] (by decide +kernel) (y := (17, [some (.ref a0), some (.int p1)], [.int 5, .int p1, .ref a0, .int v6], h)) rfl ?_
    obtain ⟨r7, hr7, hF⟩ := ob_some hF
    refine en_vi (r := [.int v6]) (by decide +kernel : u_at kl_225 17 = some (.invokevirtual 343, [223, 2, 12])) hW ha0 rfl rfl (Nat.le_of_ble_eq_true rfl) (e_223 (D := D) (by omega) hW ha0 hr7) (fun h' q => ?_)
    subst q
    refine en_ic_ge (by decide +kernel : u_at kl_225 20 = some (.if_icmp .ge 7, [27])) (fun b8 => ?_) (fun b8 => ?_)
    · replace hF := i_pos b8 hF
      refine en_segs [(27, .iconst 0, [])] (by decide +kernel) (y := (28, [some (.ref a0), some (.int p1)], [.int 0], h)) rfl ?_
      obtain rfl := Option.some.inj hF
      exact j3
    · replace hF := i_neg b8 hF
      refine en_segs [(23, .iconst 1, []), (24, .goto 4, [28])] (by decide +kernel) (y := (28, [some (.ref a0), some (.int p1)], [.int 1], h)) rfl ?_
      obtain rfl := Option.some.inj hF
      exact j3
  · replace hF := i_neg b5 hF
    refine en_segs [(23, .iconst 1, []), (24, .goto 4, [28])] (by decide +kernel) (y := (28, [some (.ref a0), some (.int p1)], [.int 1], h)) rfl ?_
    obtain rfl := Option.some.inj hF
    exact j3
def G_226 (c12 : Cl) (a0 : Nat) (lab : Nat) (xs : List Int32) (ys : List Int64) (zs : List Nat) : Option Int32 := match lab, xs, ys, zs with
  | 0, [x1, x2, x3], [], [] =>
    ald (cA c12 20 a0) 221 2 >>= fun v1 =>
    if v1 ≤ x3 then
    G_226 c12 a0 1 [x1, x2, 0] [] []
    else
    F_225 c12 a0 x3 >>= fun r3 =>
    (if r3 = 0 then
    some 0
    else
    F_223 c12 a0 x3 0 >>= fun r7 =>
    if r7 = x1 then
    F_223 c12 a0 x3 1 >>= fun r9 =>
    some r9
    else
    some 0) >>= fun t4 =>
    G_226 c12 a0 0 [x1, x2 + t4, x3 + 1] [] []
  | 1, [x1, x2, x3], [], [] =>
    if 6 ≤ x3 then
    some x2
    else
    ald (cA c12 20 a0) 221 ((94 + (3 * x3)) + 2) >>= fun v11 =>
    ald (cA c12 20 a0) 221 4 >>= fun v12 =>
    (if v11 ≤ v12 then
    some 0
    else
    ald (cA c12 20 a0) 221 (94 + (3 * x3)) >>= fun v16 =>
    if v16 = x1 then
    ald (cA c12 20 a0) 221 ((94 + (3 * x3)) + 1) >>= fun v18 =>
    some v18
    else
    some 0) >>= fun t13 =>
    G_226 c12 a0 1 [x1, x2 + t13, x3 + 1] [] []
  | _, _, _, _ => none
partial_fixpoint
set_option maxRecDepth 100000 in
set_option maxHeartbeats 4000000 in
theorem g_226 {D : Nat} (hD : 4 ≤ D + 1) {c0 c1 c2 c3 c4 c5 c6 c7 c8 c9 c10 c11 c12 c13 : Cl} {d : Ad} {a0 : Nat} (ha0 : aK d a0 = (0, 12, 0)) : ∀ (lab : Nat) (xs : List Int32) (ys : List Int64) (zs : List Nat) (r : Int32), G_226 c12 a0 lab xs ys zs = some r →
    (∀ (x1 : Int32) (x2 : Int32) (x3 : Int32), lab = 0 → xs = [x1, x2, x3] → ys = [] → zs = [] → ∀ h : UH, HW (mkw c0 c1 c2 c3 c4 c5 c6 c7 c8 c9 c10 c11 c12 c13) d h → ∀ QQ : UR → Prop, QQ (some (.int r), h) → Ends (EX D) (u_at kl_226) (4, [some (.ref a0), some (.int x1), some (.int x2), some (.int x3)], [], h) QQ) ∧
    (∀ (x1 : Int32) (x2 : Int32) (x3 : Int32), lab = 1 → xs = [x1, x2, x3] → ys = [] → zs = [] → ∀ h : UH, HW (mkw c0 c1 c2 c3 c4 c5 c6 c7 c8 c9 c10 c11 c12 c13) d h → ∀ QQ : UR → Prop, QQ (some (.int r), h) → Ends (EX D) (u_at kl_226) (53, [some (.ref a0), some (.int x1), some (.int x2), some (.int x3)], [], h) QQ) := by
  refine G_226.partial_correctness _ _ (motive := fun lab xs ys zs r =>
    (∀ (x1 : Int32) (x2 : Int32) (x3 : Int32), lab = 0 → xs = [x1, x2, x3] → ys = [] → zs = [] → ∀ h : UH, HW (mkw c0 c1 c2 c3 c4 c5 c6 c7 c8 c9 c10 c11 c12 c13) d h → ∀ QQ : UR → Prop, QQ (some (.int r), h) → Ends (EX D) (u_at kl_226) (4, [some (.ref a0), some (.int x1), some (.int x2), some (.int x3)], [], h) QQ) ∧
    (∀ (x1 : Int32) (x2 : Int32) (x3 : Int32), lab = 1 → xs = [x1, x2, x3] → ys = [] → zs = [] → ∀ h : UH, HW (mkw c0 c1 c2 c3 c4 c5 c6 c7 c8 c9 c10 c11 c12 c13) d h → ∀ QQ : UR → Prop, QQ (some (.int r), h) → Ends (EX D) (u_at kl_226) (53, [some (.ref a0), some (.int x1), some (.int x2), some (.int x3)], [], h) QQ)) ?_
  intro G ih lab xs ys zs r hF
  refine ⟨?_, ?_⟩
  · intro x1 x2 x3 e1 e2 e3 e4 h hW QQ hQ
    subst e1 e2 e3 e4
    refine en_segs [(4, .iload_n 3, []), (5, .aload_n 0, [])] (by decide +kernel) (y := (6, [some (.ref a0), some (.int x1), some (.int x2), some (.int x3)], [.ref a0, .int x3], h)) rfl ?_
    refine en_get (by decide +kernel : u_at kl_226 6 = some (.getfield 39, [12, 20])) hW ha0 (by decide) rfl ?_
    refine en_segs [(9, .iconst 2, [])] (by decide +kernel) (y := (10, [some (.ref a0), some (.int x1), some (.int x2), some (.int x3)], [.int 2, .ref (aP d 12 20 a0), .int x3], h)) rfl ?_
    obtain ⟨v1, hv1, hF⟩ := ob_some hF
    refine en_iald (by decide +kernel : u_at kl_226 10 = some (.iaload, [])) hW ha0 rfl (by decide) hv1 ?_
    refine en_ic_ge (by decide +kernel : u_at kl_226 11 = some (.if_icmp .ge 40, [51])) (fun b2 => ?_) (fun b2 => ?_)
    · replace hF := i_pos b2 hF
      refine en_segs [(51, .iconst 0, []), (52, .istore_n 3, [])] (by decide +kernel) (y := (53, [some (.ref a0), some (.int x1), some (.int x2), some (.int 0)], [], h)) rfl ?_
      exact (ih _ _ _ _ _ hF).2 _ _ _ rfl rfl rfl rfl  _ hW _ hQ
    · replace hF := i_neg b2 hF
      refine en_segs [(14, .iload_n 2, []), (15, .aload_n 0, []), (16, .iload_n 3, [])] (by decide +kernel) (y := (17, [some (.ref a0), some (.int x1), some (.int x2), some (.int x3)], [.int x3, .ref a0, .int x2], h)) rfl ?_
      obtain ⟨r3, hr3, hF⟩ := ob_some hF
      refine en_vi (r := [.int x2]) (by decide +kernel : u_at kl_226 17 = some (.invokevirtual 349, [225, 1, 12])) hW ha0 rfl rfl (Nat.le_of_ble_eq_true rfl) (e_225 (D := D) (by omega) hW ha0 hr3) (fun h' q => ?_)
      subst q
      obtain ⟨t4, hX, hK⟩ := ob_some hF
      have j5 : Ends (EX D) (u_at kl_226) (43, [some (.ref a0), some (.int x1), some (.int x2), some (.int x3)], [.int t4, .int x2], h) QQ := by
        have hF := hK
        refine en_segs [(43, .iadd, []), (44, .istore_n 2, []), (45, .iinc 3 1, []), (48, .goto (-44), [4])] (by decide +kernel) (y := (4, [some (.ref a0), some (.int x1), some (.int (x2 + t4)), some (.int (x3 + 1))], [], h)) rfl ?_
        exact (ih _ _ _ _ _ hF).1 _ _ _ rfl rfl rfl rfl  _ hW _ hQ
      have hF := hX
      refine en_if_eq (by decide +kernel : u_at kl_226 20 = some (.ifCond .eq 22, [42])) (fun b6 => ?_) (fun b6 => ?_)
      · replace hF := i_pos b6 hF
        refine en_segs [(42, .iconst 0, [])] (by decide +kernel) (y := (43, [some (.ref a0), some (.int x1), some (.int x2), some (.int x3)], [.int 0, .int x2], h)) rfl ?_
        obtain rfl := Option.some.inj hF
        exact j5
      · replace hF := i_neg b6 hF
        refine en_segs [(23, .aload_n 0, []), (24, .iload_n 3, []), (25, .iconst 0, [])] (by decide +kernel) (y := (26, [some (.ref a0), some (.int x1), some (.int x2), some (.int x3)], [.int 0, .int x3, .ref a0, .int x2], h)) rfl ?_
        obtain ⟨r7, hr7, hF⟩ := ob_some hF
        refine en_vi (r := [.int x2]) (by decide +kernel : u_at kl_226 26 = some (.invokevirtual 343, [223, 2, 12])) hW ha0 rfl rfl (Nat.le_of_ble_eq_true rfl) (e_223 (D := D) (by omega) hW ha0 hr7) (fun h' q => ?_)
        subst q
        refine en_segs [(29, .iload_n 1, [])] (by decide +kernel) (y := (30, [some (.ref a0), some (.int x1), some (.int x2), some (.int x3)], [.int x1, .int r7, .int x2], h)) rfl ?_
        refine en_ic_ne (by decide +kernel : u_at kl_226 30 = some (.if_icmp .ne 12, [42])) (fun b8 => ?_) (fun b8 => ?_)
        · replace hF := i_pos b8 hF
          refine en_segs [(33, .aload_n 0, []), (34, .iload_n 3, []), (35, .iconst 1, [])] (by decide +kernel) (y := (36, [some (.ref a0), some (.int x1), some (.int x2), some (.int x3)], [.int 1, .int x3, .ref a0, .int x2], h)) rfl ?_
          obtain ⟨r9, hr9, hF⟩ := ob_some hF
          refine en_vi (r := [.int x2]) (by decide +kernel : u_at kl_226 36 = some (.invokevirtual 343, [223, 2, 12])) hW ha0 rfl rfl (Nat.le_of_ble_eq_true rfl) (e_223 (D := D) (by omega) hW ha0 hr9) (fun h' q => ?_)
          subst q
          refine en_segs [(39, .goto 4, [43])] (by decide +kernel) (y := (43, [some (.ref a0), some (.int x1), some (.int x2), some (.int x3)], [.int r9, .int x2], h)) rfl ?_
          obtain rfl := Option.some.inj hF
          exact j5
        · replace hF := i_neg b8 hF
          refine en_segs [(42, .iconst 0, [])] (by decide +kernel) (y := (43, [some (.ref a0), some (.int x1), some (.int x2), some (.int x3)], [.int 0, .int x2], h)) rfl ?_
          obtain rfl := Option.some.inj hF
          exact j5
  · intro x1 x2 x3 e1 e2 e3 e4 h hW QQ hQ
    subst e1 e2 e3 e4
    refine en_segs [(53, .iload_n 3, []), (54, .bipush 6, [])] (by decide +kernel) (y := (56, [some (.ref a0), some (.int x1), some (.int x2), some (.int x3)], [.int 6, .int x3], h)) rfl ?_
    refine en_ic_ge (by decide +kernel : u_at kl_226 56 = some (.if_icmp .ge 66, [122])) (fun b10 => ?_) (fun b10 => ?_)
    · replace hF := i_pos b10 hF
      refine en_segs [(122, .iload_n 2, [])] (by decide +kernel) (y := (123, [some (.ref a0), some (.int x1), some (.int x2), some (.int x3)], [.int x2], h)) rfl ?_
      obtain rfl := Option.some.inj hF
      exact en_ret (by decide +kernel : u_at kl_226 123 = some (.ireturn, [0])) rfl (hQ)
    · replace hF := i_neg b10 hF
      refine en_segs [(59, .iload_n 2, []), (60, .aload_n 0, [])] (by decide +kernel) (y := (61, [some (.ref a0), some (.int x1), some (.int x2), some (.int x3)], [.ref a0, .int x2], h)) rfl ?_
      refine en_get (by decide +kernel : u_at kl_226 61 = some (.getfield 39, [12, 20])) hW ha0 (by decide) rfl ?_
      refine en_segs [(64, .bipush 94, []), (66, .iconst 3, []), (67, .iload_n 3, []), (68, .imul, []), (69, .iadd, []), (70, .iconst 2, []), (71, .iadd, [])] (by decide +kernel) (y := (72, [some (.ref a0), some (.int x1), some (.int x2), some (.int x3)], [.int ((94 + (3 * x3)) + 2), .ref (aP d 12 20 a0), .int x2], h)) rfl ?_
      obtain ⟨v11, hv11, hF⟩ := ob_some hF
      refine en_iald (by decide +kernel : u_at kl_226 72 = some (.iaload, [])) hW ha0 rfl (by decide) hv11 ?_
      refine en_segs [(73, .aload_n 0, [])] (by decide +kernel) (y := (74, [some (.ref a0), some (.int x1), some (.int x2), some (.int x3)], [.ref a0, .int v11, .int x2], h)) rfl ?_
      refine en_get (by decide +kernel : u_at kl_226 74 = some (.getfield 39, [12, 20])) hW ha0 (by decide) rfl ?_
      refine en_segs [(77, .iconst 4, [])] (by decide +kernel) (y := (78, [some (.ref a0), some (.int x1), some (.int x2), some (.int x3)], [.int 4, .ref (aP d 12 20 a0), .int v11, .int x2], h)) rfl ?_
      obtain ⟨v12, hv12, hF⟩ := ob_some hF
      refine en_iald (by decide +kernel : u_at kl_226 78 = some (.iaload, [])) hW ha0 rfl (by decide) hv12 ?_
      obtain ⟨t13, hX, hK⟩ := ob_some hF
      have j14 : Ends (EX D) (u_at kl_226) (114, [some (.ref a0), some (.int x1), some (.int x2), some (.int x3)], [.int t13, .int x2], h) QQ := by
        have hF := hK
        refine en_segs [(114, .iadd, []), (115, .istore_n 2, []), (116, .iinc 3 1, []), (119, .goto (-66), [53])] (by decide +kernel) (y := (53, [some (.ref a0), some (.int x1), some (.int (x2 + t13)), some (.int (x3 + 1))], [], h)) rfl ?_
        exact (ih _ _ _ _ _ hF).2 _ _ _ rfl rfl rfl rfl  _ hW _ hQ
      have hF := hX
      refine en_ic_le (by decide +kernel : u_at kl_226 79 = some (.if_icmp .le 34, [113])) (fun b15 => ?_) (fun b15 => ?_)
      · replace hF := i_pos b15 hF
        refine en_segs [(113, .iconst 0, [])] (by decide +kernel) (y := (114, [some (.ref a0), some (.int x1), some (.int x2), some (.int x3)], [.int 0, .int x2], h)) rfl ?_
        obtain rfl := Option.some.inj hF
        exact j14
      · replace hF := i_neg b15 hF
        refine en_segs [(82, .aload_n 0, [])] (by decide +kernel) (y := (83, [some (.ref a0), some (.int x1), some (.int x2), some (.int x3)], [.ref a0, .int x2], h)) rfl ?_
        refine en_get (by decide +kernel : u_at kl_226 83 = some (.getfield 39, [12, 20])) hW ha0 (by decide) rfl ?_
        refine en_segs [(86, .bipush 94, []), (88, .iconst 3, []), (89, .iload_n 3, []), (90, .imul, []), (91, .iadd, [])] (by decide +kernel) (y := (92, [some (.ref a0), some (.int x1), some (.int x2), some (.int x3)], [.int (94 + (3 * x3)), .ref (aP d 12 20 a0), .int x2], h)) rfl ?_
        obtain ⟨v16, hv16, hF⟩ := ob_some hF
        refine en_iald (by decide +kernel : u_at kl_226 92 = some (.iaload, [])) hW ha0 rfl (by decide) hv16 ?_
        refine en_segs [(93, .iload_n 1, [])] (by decide +kernel) (y := (94, [some (.ref a0), some (.int x1), some (.int x2), some (.int x3)], [.int x1, .int v16, .int x2], h)) rfl ?_
        refine en_ic_ne (by decide +kernel : u_at kl_226 94 = some (.if_icmp .ne 19, [113])) (fun b17 => ?_) (fun b17 => ?_)
        · replace hF := i_pos b17 hF
          refine en_segs [(97, .aload_n 0, [])] (by decide +kernel) (y := (98, [some (.ref a0), some (.int x1), some (.int x2), some (.int x3)], [.ref a0, .int x2], h)) rfl ?_
          refine en_get (by decide +kernel : u_at kl_226 98 = some (.getfield 39, [12, 20])) hW ha0 (by decide) rfl ?_
          refine en_segs [(101, .bipush 94, []), (103, .iconst 3, []), (104, .iload_n 3, []), (105, .imul, []), (106, .iadd, []), (107, .iconst 1, []), (108, .iadd, [])] (by decide +kernel) (y := (109, [some (.ref a0), some (.int x1), some (.int x2), some (.int x3)], [.int ((94 + (3 * x3)) + 1), .ref (aP d 12 20 a0), .int x2], h)) rfl ?_
          obtain ⟨v18, hv18, hF⟩ := ob_some hF
          refine en_iald (by decide +kernel : u_at kl_226 109 = some (.iaload, [])) hW ha0 rfl (by decide) hv18 ?_
          refine en_segs [(110, .goto 4, [114])] (by decide +kernel) (y := (114, [some (.ref a0), some (.int x1), some (.int x2), some (.int x3)], [.int v18, .int x2], h)) rfl ?_
          obtain rfl := Option.some.inj hF
          exact j14
        · replace hF := i_neg b17 hF
          refine en_segs [(113, .iconst 0, [])] (by decide +kernel) (y := (114, [some (.ref a0), some (.int x1), some (.int x2), some (.int x3)], [.int 0, .int x2], h)) rfl ?_
          obtain rfl := Option.some.inj hF
          exact j14
def F_226 (c12 : Cl) (a0 : Nat) (p1 : Int32) : Option Int32 :=
  G_226 c12 a0 0 [p1, 0, 0] [] []
set_option maxRecDepth 100000 in
set_option maxHeartbeats 4000000 in
/-- HeadCountsModel.countOf -/
theorem e_226 {D : Nat} {c0 c1 c2 c3 c4 c5 c6 c7 c8 c9 c10 c11 c12 c13 : Cl} {d : Ad} {h : UH} {a0 : Nat} {p1 : Int32} {r : Int32} (hD : 4 ≤ D) (hW : HW (mkw c0 c1 c2 c3 c4 c5 c6 c7 c8 c9 c10 c11 c12 c13) d h) (ha0 : aK d a0 = (0, 12, 0)) (hF : F_226 c12 a0 p1 = some r) : ∃ q, EX D 226 [.ref a0, .int p1] h q ∧ q.1 = some (.int r) ∧ h = q.2 := by
  obtain ⟨D, rfl⟩ : ∃ E, D = E + 1 := ⟨D - 1, by omega⟩
  unfold F_226 at hF
  refine ex_in (kl := kl_226) (nL := 4) rfl (by decide +kernel) (Nat.le_of_ble_eq_true rfl) ?_
  obtain ⟨QQ, hQQ⟩ : ∃ QQ : UR → Prop, QQ = (fun q : UR => q.1 = some (.int r) ∧ h = q.2) := ⟨_, rfl⟩
  rw [← hQQ]
  have hQ : QQ (some (.int r), h) := by rw [hQQ]; exact ⟨rfl, rfl⟩
  clear hQQ
  show Ends (EX D) (u_at kl_226) (0, [some (.ref a0), some (.int p1), none, none], [], h) QQ
  have ih := g_226 (D := D) hD (c0 := c0) (c1 := c1) (c2 := c2) (c3 := c3) (c4 := c4) (c5 := c5) (c6 := c6) (c7 := c7) (c8 := c8) (c9 := c9) (c10 := c10) (c11 := c11) (c12 := c12) (c13 := c13) (d := d) ha0
  refine en_segs [(0, .iconst 0, []), (1, .istore_n 2, []), (2, .iconst 0, []), (3, .istore_n 3, [])] (by decide +kernel) (y := (4, [some (.ref a0), some (.int p1), some (.int 0), some (.int 0)], [], h)) rfl ?_
  exact (ih _ _ _ _ _ hF).1 _ _ _ rfl rfl rfl rfl  _ hW _ hQ
