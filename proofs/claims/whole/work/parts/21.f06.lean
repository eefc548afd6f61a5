def F_241 (c12 : Cl) (a0 : Nat) (p1 : Int32) (p2 : Int32) : Option Int32 :=
  F_224 c12 a0 p1 >>= fun r1 =>
  ((if r1 = 0 then
  some 0
  else
  F_223 c12 a0 p1 0 >>= fun r6 =>
  F_232 c12 a0 r6 >>= fun r7 =>
  F_171 r7 p2 >>= fun r8 =>
  if r8 = 0 then
  some 0
  else
  F_226 c12 a0 p2 >>= fun r10 =>
  F_223 c12 a0 p1 1 >>= fun r11 =>
  ald (cA c12 20 a0) 221 (82 + p2) >>= fun v12 =>
  if v12 < (r10 + r11) then
  some 0
  else
  some 1) : Option (Int32)) >>= fun (t2 : Int32) =>
  zb t2 >>= fun z4 => some z4
set_option maxRecDepth 100000 in
set_option maxHeartbeats 4000000 in
/-- HeadCountsModel.canGo -/
theorem e_241 {D : Nat} {c0 c1 c2 c3 c4 c5 c6 c7 c8 c9 c10 c11 c12 c13 : Cl} {d : Ad} {h : UH} {a0 : Nat} {p1 : Int32} {p2 : Int32} {r : Int32} (hD : 5 ≤ D) (hW : HW (mkw c0 c1 c2 c3 c4 c5 c6 c7 c8 c9 c10 c11 c12 c13) d h) (ha0 : aK d a0 = (0, 12, 0)) (hF : F_241 c12 a0 p1 p2 = some r) : ∃ q, EX D 241 [.ref a0, .int p1, .int p2] h q ∧ q.1 = some (.int r) ∧ h = q.2 := by
  obtain ⟨D, rfl⟩ : ∃ E, D = E + 1 := ⟨D - 1, by omega⟩
  unfold F_241 at hF
  refine ex_in (kl := kl_241) (nL := 3) rfl (by decide +kernel) (Nat.le_of_ble_eq_true rfl) ?_
  obtain ⟨QQ, hQQ⟩ : ∃ QQ : UR → Prop, QQ = (fun q : UR => q.1 = some (.int r) ∧ h = q.2) := ⟨_, rfl⟩
  rw [← hQQ]
  have hQ : QQ (some (.int r), h) := by rw [hQQ]; exact ⟨rfl, rfl⟩
  clear hQQ
  show Ends (EX D) (u_at kl_241) (0, [some (.ref a0), some (.int p1), some (.int p2)], [], h) QQ
  refine en_segs [(0, .aload_n 0, []), (1, .iload_n 1, [])] (by decide +kernel) (y := (2, [some (.ref a0), some (.int p1), some (.int p2)], [.int p1, .ref a0], h)) rfl ?_
  obtain ⟨r1, hr1, hF⟩ := ob_some hF
  refine en_vi (r := []) (by decide +kernel : u_at kl_241 2 = some (.invokevirtual 346, [224, 1, 12])) hW ha0 rfl rfl (Nat.le_of_ble_eq_true rfl) (e_224 (D := D) (by omega) hW ha0 hr1) (fun h' q => ?_)
  subst q
  obtain ⟨t2, hX, hK⟩ := ob_some hF
  have j3 : Ends (EX D) (u_at kl_241) (54, [some (.ref a0), some (.int p1), some (.int p2)], [.int t2], h) QQ := by
    have hF := hK
    obtain ⟨z4, hz4, hF⟩ := ob_some hF
    obtain rfl := Option.some.inj hF
    exact en_retZ (by decide +kernel : u_at kl_241 54 = some (.ireturn, [1])) hz4 (hQ)
  have hF := hX
  refine en_if_eq (by decide +kernel : u_at kl_241 5 = some (.ifCond .eq 48, [53])) (fun b5 => ?_) (fun b5 => ?_)
  · replace hF := i_pos b5 hF
    refine en_segs [(53, .iconst 0, [])] (by decide +kernel) (y := (54, [some (.ref a0), some (.int p1), some (.int p2)], [.int 0], h)) rfl ?_
    obtain rfl := Option.some.inj hF
    exact j3
  · replace hF := i_neg b5 hF
    refine en_segs [(8, .aload_n 0, []), (9, .aload_n 0, []), (10, .iload_n 1, []), (11, .iconst 0, [])] (by decide +kernel) (y := (12, [some (.ref a0), some (.int p1), some (.int p2)], [.int 0, .int p1, .ref a0, .ref a0], h)) rfl ?_
    obtain ⟨r6, hr6, hF⟩ := ob_some hF
    refine en_vi (r := [.ref a0]) (by decide +kernel : u_at kl_241 12 = some (.invokevirtual 343, [223, 2, 12])) hW ha0 rfl rfl (Nat.le_of_ble_eq_true rfl) (e_223 (D := D) (by omega) hW ha0 hr6) (fun h' q => ?_)
    subst q
    obtain ⟨r7, hr7, hF⟩ := ob_some hF
    refine en_vi (r := []) (by decide +kernel : u_at kl_241 15 = some (.invokevirtual 378, [232, 1, 12])) hW ha0 rfl rfl (Nat.le_of_ble_eq_true rfl) (e_232 (D := D) (by omega) hW ha0 hr7) (fun h' q => ?_)
    subst q
    refine en_segs [(18, .iload_n 2, [])] (by decide +kernel) (y := (19, [some (.ref a0), some (.int p1), some (.int p2)], [.int p2, .int r7], h)) rfl ?_
    obtain ⟨r8, hr8, hF⟩ := ob_some hF
    refine en_si (r := []) (by decide +kernel : u_at kl_241 19 = some (.invokestatic 361, [171, 2])) rfl rfl (Nat.le_of_ble_eq_true rfl) (e_171 (D := D) (by omega) hW hr8) (fun h' q => ?_)
    subst q
    refine en_if_eq (by decide +kernel : u_at kl_241 22 = some (.ifCond .eq 31, [53])) (fun b9 => ?_) (fun b9 => ?_)
    · replace hF := i_pos b9 hF
      refine en_segs [(53, .iconst 0, [])] (by decide +kernel) (y := (54, [some (.ref a0), some (.int p1), some (.int p2)], [.int 0], h)) rfl ?_
      obtain rfl := Option.some.inj hF
      exact j3
    · replace hF := i_neg b9 hF
      refine en_segs [(25, .aload_n 0, []), (26, .iload_n 2, [])] (by decide +kernel) (y := (27, [some (.ref a0), some (.int p1), some (.int p2)], [.int p2, .ref a0], h)) rfl ?_
      obtain ⟨r10, hr10, hF⟩ := ob_some hF
      refine en_vi (r := []) (by decide +kernel : u_at kl_241 27 = some (.invokevirtual 352, [226, 1, 12])) hW ha0 rfl rfl (Nat.le_of_ble_eq_true rfl) (e_226 (D := D) (by omega) hW ha0 hr10) (fun h' q => ?_)
      subst q
      refine en_segs [(30, .aload_n 0, []), (31, .iload_n 1, []), (32, .iconst 1, [])] (by decide +kernel) (y := (33, [some (.ref a0), some (.int p1), some (.int p2)], [.int 1, .int p1, .ref a0, .int r10], h)) rfl ?_
      obtain ⟨r11, hr11, hF⟩ := ob_some hF
      refine en_vi (r := [.int r10]) (by decide +kernel : u_at kl_241 33 = some (.invokevirtual 343, [223, 2, 12])) hW ha0 rfl rfl (Nat.le_of_ble_eq_true rfl) (e_223 (D := D) (by omega) hW ha0 hr11) (fun h' q => ?_)
      subst q
      refine en_segs [(36, .iadd, []), (37, .aload_n 0, [])] (by decide +kernel) (y := (38, [some (.ref a0), some (.int p1), some (.int p2)], [.ref a0, .int (r10 + r11)], h)) rfl ?_
      refine en_get (by decide +kernel : u_at kl_241 38 = some (.getfield 39, [12, 20])) hW ha0 (by decide) rfl ?_
      refine en_segs [(41, .bipush 82, []), (43, .iload_n 2, []), (44, .iadd, [])] (by decide +kernel) (y := (45, [some (.ref a0), some (.int p1), some (.int p2)], [.int (82 + p2), .ref (aP d 12 20 a0), .int (r10 + r11)], h)) rfl ?_
      obtain ⟨v12, hv12, hF⟩ := ob_some hF
      refine en_iald (by decide +kernel : u_at kl_241 45 = some (.iaload, [])) hW ha0 rfl (by decide) hv12 ?_
      refine en_ic_gt (by decide +kernel : u_at kl_241 46 = some (.if_icmp .gt 7, [53])) (fun b13 => ?_) (fun b13 => ?_)
      · replace hF := i_pos b13 hF
        refine en_segs [(53, .iconst 0, [])] (by decide +kernel) (y := (54, [some (.ref a0), some (.int p1), some (.int p2)], [.int 0], h)) rfl ?_
        obtain rfl := Option.some.inj hF
        exact j3
      · replace hF := i_neg b13 hF
        refine en_segs [(49, .iconst 1, []), (50, .goto 4, [54])] (by decide +kernel) (y := (54, [some (.ref a0), some (.int p1), some (.int p2)], [.int 1], h)) rfl ?_
        obtain rfl := Option.some.inj hF
        exact j3
def F_242 (c12 : Cl) (a0 : Nat) : Option Cl :=
  ald (cA c12 20 a0) 221 4 >>= fun v1 =>
  ast c12 20 a0 221 4 (v1 + 1) >>= fun c12_2 =>
  some c12_2
set_option maxRecDepth 100000 in
set_option maxHeartbeats 4000000 in
/-- HeadCountsModel.minuteComes -/
theorem e_242 {D : Nat} {c0 c1 c2 c3 c4 c5 c6 c7 c8 c9 c10 c11 c12 c13 : Cl} {d : Ad} {h : UH} {a0 : Nat} {r : Cl} (hD : 1 ≤ D) (hW : HW (mkw c0 c1 c2 c3 c4 c5 c6 c7 c8 c9 c10 c11 c12 c13) d h) (ha0 : aK d a0 = (0, 12, 0)) (hF : F_242 c12 a0 = some r) : ∃ q, EX D 242 [.ref a0] h q ∧ q.1 = none ∧ HW (mkw c0 c1 c2 c3 c4 c5 c6 c7 c8 c9 c10 c11 r c13) d q.2 := by
  obtain ⟨D, rfl⟩ : ∃ E, D = E + 1 := ⟨D - 1, by omega⟩
  unfold F_242 at hF
  refine ex_in (kl := kl_242) (nL := 1) rfl (by decide +kernel) (Nat.le_of_ble_eq_true rfl) ?_
  obtain ⟨QQ, hQQ⟩ : ∃ QQ : UR → Prop, QQ = (fun q : UR => q.1 = none ∧ HW (mkw c0 c1 c2 c3 c4 c5 c6 c7 c8 c9 c10 c11 r c13) d q.2) := ⟨_, rfl⟩
  rw [← hQQ]
  have hQ : ∀ h' : UH, HW (mkw c0 c1 c2 c3 c4 c5 c6 c7 c8 c9 c10 c11 r c13) d h' → QQ (none, h') := fun h' p => by rw [hQQ]; exact ⟨rfl, p⟩
  clear hQQ
  show Ends (EX D) (u_at kl_242) (0, [some (.ref a0)], [], h) QQ
  refine en_segs [(0, .aload_n 0, [])] (by decide +kernel) (y := (1, [some (.ref a0)], [.ref a0], h)) rfl ?_
  refine en_get (by decide +kernel : u_at kl_242 1 = some (.getfield 39, [12, 20])) hW ha0 (by decide) rfl ?_
  refine en_segs [(4, .iconst 4, []), (5, .dup2, [])] (by decide +kernel) (y := (6, [some (.ref a0)], [.int 4, .ref (aP d 12 20 a0), .int 4, .ref (aP d 12 20 a0)], h)) rfl ?_
  obtain ⟨v1, hv1, hF⟩ := ob_some hF
  refine en_iald (by decide +kernel : u_at kl_242 6 = some (.iaload, [])) hW ha0 rfl (by decide) hv1 ?_
  refine en_segs [(7, .iconst 1, []), (8, .iadd, [])] (by decide +kernel) (y := (9, [some (.ref a0)], [.int (v1 + 1), .int 4, .ref (aP d 12 20 a0)], h)) rfl ?_
  obtain ⟨c12_2, hc12_2, hF⟩ := ob_some hF
  refine en_iast (by decide +kernel : u_at kl_242 9 = some (.iastore, [])) hW ha0 rfl (by decide) hc12_2 (fun h hW => ?_)
  have hW : HW (mkw c0 c1 c2 c3 c4 c5 c6 c7 c8 c9 c10 c11 c12_2 c13) d h := hW
  obtain rfl := Option.some.inj hF
  exact en_ret (by decide +kernel : u_at kl_242 10 = some (.return_, [])) rfl (hQ _ hW)
def G_243 (c12 : Cl) (a0 : Nat) (lab : Nat) (xs : List Int32) (ys : List Int64) (zs : List Nat) : Option Cl := match lab, xs, ys, zs with
  | 0, [x1, x2, x3], [], [] =>
    if 6 ≤ x3 then
    some c12
    else
    ald (cA c12 20 a0) 221 ((94 + (3 * x3)) + 2) >>= fun v4 =>
    ald (cA c12 20 a0) 221 4 >>= fun v5 =>
    if v4 ≤ v5 then
    ast c12 20 a0 221 (94 + (3 * x3)) x1 >>= fun c12_7 =>
    ast c12_7 20 a0 221 ((94 + (3 * x3)) + 1) x2 >>= fun c12_8 =>
    ald (cA c12_8 20 a0) 221 4 >>= fun v9 =>
    ald (cA c12_8 20 a0) 221 7 >>= fun v10 =>
    ast c12_8 20 a0 221 ((94 + (3 * x3)) + 2) (v9 + v10) >>= fun c12_11 =>
    some c12_11
    else
    G_243 c12 a0 0 [x1, x2, x3 + 1] [] []
  | _, _, _, _ => none
partial_fixpoint
set_option maxRecDepth 100000 in
set_option maxHeartbeats 4000000 in
theorem g_243 {D : Nat} (hD : 1 ≤ D + 1) {c0 c1 c2 c3 c4 c5 c6 c7 c8 c9 c10 c11 c12 c13 : Cl} {d : Ad} {a0 : Nat} (ha0 : aK d a0 = (0, 12, 0)) : ∀ (lab : Nat) (xs : List Int32) (ys : List Int64) (zs : List Nat) (r : Cl), G_243 c12 a0 lab xs ys zs = some r →
    (∀ (x1 : Int32) (x2 : Int32) (x3 : Int32), lab = 0 → xs = [x1, x2, x3] → ys = [] → zs = [] → ∀ h : UH, HW (mkw c0 c1 c2 c3 c4 c5 c6 c7 c8 c9 c10 c11 c12 c13) d h → ∀ QQ : UR → Prop, (∀ h' : UH, HW (mkw c0 c1 c2 c3 c4 c5 c6 c7 c8 c9 c10 c11 r c13) d h' → QQ (none, h')) → Ends (EX D) (u_at kl_243) (13, [some (.ref a0), some (.int x1), some (.int x2), some (.int x3), none], [], h) QQ) := by
  refine G_243.partial_correctness _ _ (motive := fun lab xs ys zs r =>
    (∀ (x1 : Int32) (x2 : Int32) (x3 : Int32), lab = 0 → xs = [x1, x2, x3] → ys = [] → zs = [] → ∀ h : UH, HW (mkw c0 c1 c2 c3 c4 c5 c6 c7 c8 c9 c10 c11 c12 c13) d h → ∀ QQ : UR → Prop, (∀ h' : UH, HW (mkw c0 c1 c2 c3 c4 c5 c6 c7 c8 c9 c10 c11 r c13) d h' → QQ (none, h')) → Ends (EX D) (u_at kl_243) (13, [some (.ref a0), some (.int x1), some (.int x2), some (.int x3), none], [], h) QQ)) ?_
  intro G ih lab xs ys zs r hF
  · intro x1 x2 x3 e1 e2 e3 e4 h hW QQ hQ
    subst e1 e2 e3 e4
    refine en_segs [(13, .iload_n 3, []), (14, .bipush 6, [])] (by decide +kernel) (y := (16, [some (.ref a0), some (.int x1), some (.int x2), some (.int x3), none], [.int 6, .int x3], h)) rfl ?_
    refine en_ic_ge (by decide +kernel : u_at kl_243 16 = some (.if_icmp .ge 80, [96])) (fun b3 => ?_) (fun b3 => ?_)
    · replace hF := i_pos b3 hF
      obtain rfl := Option.some.inj hF
      exact en_ret (by decide +kernel : u_at kl_243 96 = some (.return_, [])) rfl (hQ _ hW)
    · replace hF := i_neg b3 hF
      refine en_segs [(19, .bipush 94, []), (21, .iconst 3, []), (22, .iload_n 3, []), (23, .imul, []), (24, .iadd, []), (25, .istore 4, []), (27, .aload_n 0, [])] (by decide +kernel) (y := (28, [some (.ref a0), some (.int x1), some (.int x2), some (.int x3), some (.int (94 + (3 * x3)))], [.ref a0], h)) rfl ?_
      refine en_get (by decide +kernel : u_at kl_243 28 = some (.getfield 39, [12, 20])) hW ha0 (by decide) rfl ?_
      refine en_segs [(31, .iload 4, []), (33, .iconst 2, []), (34, .iadd, [])] (by decide +kernel) (y := (35, [some (.ref a0), some (.int x1), some (.int x2), some (.int x3), some (.int (94 + (3 * x3)))], [.int ((94 + (3 * x3)) + 2), .ref (aP d 12 20 a0)], h)) rfl ?_
      obtain ⟨v4, hv4, hF⟩ := ob_some hF
      refine en_iald (by decide +kernel : u_at kl_243 35 = some (.iaload, [])) hW ha0 rfl (by decide) hv4 ?_
      refine en_segs [(36, .aload_n 0, [])] (by decide +kernel) (y := (37, [some (.ref a0), some (.int x1), some (.int x2), some (.int x3), some (.int (94 + (3 * x3)))], [.ref a0, .int v4], h)) rfl ?_
      refine en_get (by decide +kernel : u_at kl_243 37 = some (.getfield 39, [12, 20])) hW ha0 (by decide) rfl ?_
      refine en_segs [(40, .iconst 4, [])] (by decide +kernel) (y := (41, [some (.ref a0), some (.int x1), some (.int x2), some (.int x3), some (.int (94 + (3 * x3)))], [.int 4, .ref (aP d 12 20 a0), .int v4], h)) rfl ?_
      obtain ⟨v5, hv5, hF⟩ := ob_some hF
      refine en_iald (by decide +kernel : u_at kl_243 41 = some (.iaload, [])) hW ha0 rfl (by decide) hv5 ?_
      refine en_ic_le (by decide +kernel : u_at kl_243 42 = some (.if_icmp .le 6, [48])) (fun b6 => ?_) (fun b6 => ?_)
      · replace hF := i_pos b6 hF
        refine en_segs [(48, .aload_n 0, [])] (by decide +kernel) (y := (49, [some (.ref a0), some (.int x1), some (.int x2), some (.int x3), some (.int (94 + (3 * x3)))], [.ref a0], h)) rfl ?_
        refine en_get (by decide +kernel : u_at kl_243 49 = some (.getfield 39, [12, 20])) hW ha0 (by decide) rfl ?_
        refine en_segs [(52, .iload 4, []), (54, .iload_n 1, [])] (by decide +kernel) (y := (55, [some (.ref a0), some (.int x1), some (.int x2), some (.int x3), some (.int (94 + (3 * x3)))], [.int x1, .int (94 + (3 * x3)), .ref (aP d 12 20 a0)], h)) rfl ?_
        obtain ⟨c12_7, hc12_7, hF⟩ := ob_some hF
        refine en_iast (by decide +kernel : u_at kl_243 55 = some (.iastore, [])) hW ha0 rfl (by decide) hc12_7 (fun h hW => ?_)
        have hW : HW (mkw c0 c1 c2 c3 c4 c5 c6 c7 c8 c9 c10 c11 c12_7 c13) d h := hW
        refine en_segs [(56, .aload_n 0, [])] (by decide +kernel) (y := (57, [some (.ref a0), some (.int x1), some (.int x2), some (.int x3), some (.int (94 + (3 * x3)))], [.ref a0], h)) rfl ?_
        refine en_get (by decide +kernel : u_at kl_243 57 = some (.getfield 39, [12, 20])) hW ha0 (by decide) rfl ?_
        refine en_segs [(60, .iload 4, []), (62, .iconst 1, []), (63, .iadd, []), (64, .iload_n 2, [])] (by decide +kernel) (y := (65, [some (.ref a0), some (.int x1), some (.int x2), some (.int x3), some (.int (94 + (3 * x3)))], [.int x2, .int ((94 + (3 * x3)) + 1), .ref (aP d 12 20 a0)], h)) rfl ?_
        obtain ⟨c12_8, hc12_8, hF⟩ := ob_some hF
        refine en_iast (by decide +kernel : u_at kl_243 65 = some (.iastore, [])) hW ha0 rfl (by decide) hc12_8 (fun h hW => ?_)
        have hW : HW (mkw c0 c1 c2 c3 c4 c5 c6 c7 c8 c9 c10 c11 c12_8 c13) d h := hW
        refine en_segs [(66, .aload_n 0, [])] (by decide +kernel) (y := (67, [some (.ref a0), some (.int x1), some (.int x2), some (.int x3), some (.int (94 + (3 * x3)))], [.ref a0], h)) rfl ?_
        refine en_get (by decide +kernel : u_at kl_243 67 = some (.getfield 39, [12, 20])) hW ha0 (by decide) rfl ?_
        refine en_segs [(70, .iload 4, []), (72, .iconst 2, []), (73, .iadd, []), (74, .aload_n 0, [])] (by decide +kernel) (y := (75, [some (.ref a0), some (.int x1), some (.int x2), some (.int x3), some (.int (94 + (3 * x3)))], [.ref a0, .int ((94 + (3 * x3)) + 2), .ref (aP d 12 20 a0)], h)) rfl ?_
        refine en_get (by decide +kernel : u_at kl_243 75 = some (.getfield 39, [12, 20])) hW ha0 (by decide) rfl ?_
        refine en_segs [(78, .iconst 4, [])] (by decide +kernel) (y := (79, [some (.ref a0), some (.int x1), some (.int x2), some (.int x3), some (.int (94 + (3 * x3)))], [.int 4, .ref (aP d 12 20 a0), .int ((94 + (3 * x3)) + 2), .ref (aP d 12 20 a0)], h)) rfl ?_
        obtain ⟨v9, hv9, hF⟩ := ob_some hF
        refine en_iald (by decide +kernel : u_at kl_243 79 = some (.iaload, [])) hW ha0 rfl (by decide) hv9 ?_
        refine en_segs [(80, .aload_n 0, [])] (by decide +kernel) (y := (81, [some (.ref a0), some (.int x1), some (.int x2), some (.int x3), some (.int (94 + (3 * x3)))], [.ref a0, .int v9, .int ((94 + (3 * x3)) + 2), .ref (aP d 12 20 a0)], h)) rfl ?_
        refine en_get (by decide +kernel : u_at kl_243 81 = some (.getfield 39, [12, 20])) hW ha0 (by decide) rfl ?_
        refine en_segs [(84, .bipush 7, [])] (by decide +kernel) (y := (86, [some (.ref a0), some (.int x1), some (.int x2), some (.int x3), some (.int (94 + (3 * x3)))], [.int 7, .ref (aP d 12 20 a0), .int v9, .int ((94 + (3 * x3)) + 2), .ref (aP d 12 20 a0)], h)) rfl ?_
        obtain ⟨v10, hv10, hF⟩ := ob_some hF
        refine en_iald (by decide +kernel : u_at kl_243 86 = some (.iaload, [])) hW ha0 rfl (by decide) hv10 ?_
        refine en_segs [(87, .iadd, [])] (by decide +kernel) (y := (88, [some (.ref a0), some (.int x1), some (.int x2), some (.int x3), some (.int (94 + (3 * x3)))], [.int (v9 + v10), .int ((94 + (3 * x3)) + 2), .ref (aP d 12 20 a0)], h)) rfl ?_
        obtain ⟨c12_11, hc12_11, hF⟩ := ob_some hF
        refine en_iast (by decide +kernel : u_at kl_243 88 = some (.iastore, [])) hW ha0 rfl (by decide) hc12_11 (fun h hW => ?_)
        have hW : HW (mkw c0 c1 c2 c3 c4 c5 c6 c7 c8 c9 c10 c11 c12_11 c13) d h := hW
        obtain rfl := Option.some.inj hF
        exact en_ret (by decide +kernel : u_at kl_243 89 = some (.return_, [])) rfl (hQ _ hW)
      · replace hF := i_neg b6 hF
        refine en_segs [(45, .goto 45, [90]), (90, .iinc 3 1, []), (93, .goto (-80), [13])] (by decide +kernel) (y := (13, [some (.ref a0), some (.int x1), some (.int x2), some (.int (x3 + 1)), some (.int (94 + (3 * x3)))], [], h)) rfl ?_
        refine en_fg (fg_k (fg_k (fg_k (fg_k (fg_d fg_0))))) ?_
        exact (ih _ _ _ _ _ hF) _ _ _ rfl rfl rfl rfl  _ hW _ hQ
def F_243 (c12 : Cl) (a0 : Nat) (p1 : Int32) (p2 : Int32) : Option Cl :=
  ald (cA c12 20 a0) 221 7 >>= fun v1 =>
  if v1 = 0 then
  some c12
  else
  G_243 c12 a0 0 [p1, p2, 0] [] []
set_option maxRecDepth 100000 in
set_option maxHeartbeats 4000000 in
/-- HeadCountsModel.leavesEcho -/
theorem e_243 {D : Nat} {c0 c1 c2 c3 c4 c5 c6 c7 c8 c9 c10 c11 c12 c13 : Cl} {d : Ad} {h : UH} {a0 : Nat} {p1 : Int32} {p2 : Int32} {r : Cl} (hD : 1 ≤ D) (hW : HW (mkw c0 c1 c2 c3 c4 c5 c6 c7 c8 c9 c10 c11 c12 c13) d h) (ha0 : aK d a0 = (0, 12, 0)) (hF : F_243 c12 a0 p1 p2 = some r) : ∃ q, EX D 243 [.ref a0, .int p1, .int p2] h q ∧ q.1 = none ∧ HW (mkw c0 c1 c2 c3 c4 c5 c6 c7 c8 c9 c10 c11 r c13) d q.2 := by
  obtain ⟨D, rfl⟩ : ∃ E, D = E + 1 := ⟨D - 1, by omega⟩
  unfold F_243 at hF
  refine ex_in (kl := kl_243) (nL := 5) rfl (by decide +kernel) (Nat.le_of_ble_eq_true rfl) ?_
  obtain ⟨QQ, hQQ⟩ : ∃ QQ : UR → Prop, QQ = (fun q : UR => q.1 = none ∧ HW (mkw c0 c1 c2 c3 c4 c5 c6 c7 c8 c9 c10 c11 r c13) d q.2) := ⟨_, rfl⟩
  rw [← hQQ]
  have hQ : ∀ h' : UH, HW (mkw c0 c1 c2 c3 c4 c5 c6 c7 c8 c9 c10 c11 r c13) d h' → QQ (none, h') := fun h' p => by rw [hQQ]; exact ⟨rfl, p⟩
  clear hQQ
  show Ends (EX D) (u_at kl_243) (0, [some (.ref a0), some (.int p1), some (.int p2), none, none], [], h) QQ
  refine en_segs [(0, .aload_n 0, [])] (by decide +kernel) (y := (1, [some (.ref a0), some (.int p1), some (.int p2), none, none], [.ref a0], h)) rfl ?_
  refine en_get (by decide +kernel : u_at kl_243 1 = some (.getfield 39, [12, 20])) hW ha0 (by decide) rfl ?_
  refine en_segs [(4, .bipush 7, [])] (by decide +kernel) (y := (6, [some (.ref a0), some (.int p1), some (.int p2), none, none], [.int 7, .ref (aP d 12 20 a0)], h)) rfl ?_
  obtain ⟨v1, hv1, hF⟩ := ob_some hF
  refine en_iald (by decide +kernel : u_at kl_243 6 = some (.iaload, [])) hW ha0 rfl (by decide) hv1 ?_
  refine en_if_ne (by decide +kernel : u_at kl_243 7 = some (.ifCond .ne 4, [11])) (fun b2 => ?_) (fun b2 => ?_)
  · replace hF := i_pos b2 hF
    obtain rfl := Option.some.inj hF
    exact en_ret (by decide +kernel : u_at kl_243 10 = some (.return_, [])) rfl (hQ _ hW)
  · replace hF := i_neg b2 hF
    refine en_segs [(11, .iconst 0, []), (12, .istore_n 3, [])] (by decide +kernel) (y := (13, [some (.ref a0), some (.int p1), some (.int p2), some (.int 0), none], [], h)) rfl ?_
    exact (g_243 (D := D) hD (d := d) ha0 _ _ _ _ _ hF) _ _ _ rfl rfl rfl rfl  _ hW _ hQ
def F_244 (c12 : Cl) (a0 : Nat) (p1 : Int32) (p2 : Int32) : Option Cl :=
  ald (cA c12 20 a0) 221 (40 + (6 * p1)) >>= fun v1 =>
  ast c12 20 a0 221 ((40 + (6 * p1)) + 3) v1 >>= fun c12_2 =>
  ast c12_2 20 a0 221 (40 + (6 * p1)) p2 >>= fun c12_3 =>
  ald (cA c12_3 20 a0) 221 ((40 + (6 * p1)) + 4) >>= fun v4 =>
  ast c12_3 20 a0 221 ((40 + (6 * p1)) + 4) (v4 + 1) >>= fun c12_5 =>
  ald (cA c12_5 20 a0) 221 5 >>= fun v6 =>
  ast c12_5 20 a0 221 5 (v6 + 1) >>= fun c12_7 =>
  some c12_7
set_option maxRecDepth 100000 in
set_option maxHeartbeats 4000000 in
/-- HeadCountsModel.goes -/
theorem e_244 {D : Nat} {c0 c1 c2 c3 c4 c5 c6 c7 c8 c9 c10 c11 c12 c13 : Cl} {d : Ad} {h : UH} {a0 : Nat} {p1 : Int32} {p2 : Int32} {r : Cl} (hD : 1 ≤ D) (hW : HW (mkw c0 c1 c2 c3 c4 c5 c6 c7 c8 c9 c10 c11 c12 c13) d h) (ha0 : aK d a0 = (0, 12, 0)) (hF : F_244 c12 a0 p1 p2 = some r) : ∃ q, EX D 244 [.ref a0, .int p1, .int p2] h q ∧ q.1 = none ∧ HW (mkw c0 c1 c2 c3 c4 c5 c6 c7 c8 c9 c10 c11 r c13) d q.2 := by
  obtain ⟨D, rfl⟩ : ∃ E, D = E + 1 := ⟨D - 1, by omega⟩
  unfold F_244 at hF
  refine ex_in (kl := kl_244) (nL := 4) rfl (by decide +kernel) (Nat.le_of_ble_eq_true rfl) ?_
  obtain ⟨QQ, hQQ⟩ : ∃ QQ : UR → Prop, QQ = (fun q : UR => q.1 = none ∧ HW (mkw c0 c1 c2 c3 c4 c5 c6 c7 c8 c9 c10 c11 r c13) d q.2) := ⟨_, rfl⟩
  rw [← hQQ]
  have hQ : ∀ h' : UH, HW (mkw c0 c1 c2 c3 c4 c5 c6 c7 c8 c9 c10 c11 r c13) d h' → QQ (none, h') := fun h' p => by rw [hQQ]; exact ⟨rfl, p⟩
  clear hQQ
  show Ends (EX D) (u_at kl_244) (0, [some (.ref a0), some (.int p1), some (.int p2), none], [], h) QQ
  refine en_segs [(0, .bipush 40, []), (2, .bipush 6, []), (4, .iload_n 1, []), (5, .imul, []), (6, .iadd, []), (7, .istore_n 3, []), (8, .aload_n 0, [])] (by decide +kernel) (y := (9, [some (.ref a0), some (.int p1), some (.int p2), some (.int (40 + (6 * p1)))], [.ref a0], h)) rfl ?_
  refine en_get (by decide +kernel : u_at kl_244 9 = some (.getfield 39, [12, 20])) hW ha0 (by decide) rfl ?_
  refine en_segs [(12, .iload_n 3, []), (13, .iconst 3, []), (14, .iadd, []), (15, .aload_n 0, [])] (by decide +kernel) (y := (16, [some (.ref a0), some (.int p1), some (.int p2), some (.int (40 + (6 * p1)))], [.ref a0, .int ((40 + (6 * p1)) + 3), .ref (aP d 12 20 a0)], h)) rfl ?_
  refine en_get (by decide +kernel : u_at kl_244 16 = some (.getfield 39, [12, 20])) hW ha0 (by decide) rfl ?_
  refine en_segs [(19, .iload_n 3, [])] (by decide +kernel) (y := (20, [some (.ref a0), some (.int p1), some (.int p2), some (.int (40 + (6 * p1)))], [.int (40 + (6 * p1)), .ref (aP d 12 20 a0), .int ((40 + (6 * p1)) + 3), .ref (aP d 12 20 a0)], h)) rfl ?_
  obtain ⟨v1, hv1, hF⟩ := ob_some hF
  refine en_iald (by decide +kernel : u_at kl_244 20 = some (.iaload, [])) hW ha0 rfl (by decide) hv1 ?_
  obtain ⟨c12_2, hc12_2, hF⟩ := ob_some hF
  refine en_iast (by decide +kernel : u_at kl_244 21 = some (.iastore, [])) hW ha0 rfl (by decide) hc12_2 (fun h hW => ?_)
  have hW : HW (mkw c0 c1 c2 c3 c4 c5 c6 c7 c8 c9 c10 c11 c12_2 c13) d h := hW
  refine en_segs [(22, .aload_n 0, [])] (by decide +kernel) (y := (23, [some (.ref a0), some (.int p1), some (.int p2), some (.int (40 + (6 * p1)))], [.ref a0], h)) rfl ?_
  refine en_get (by decide +kernel : u_at kl_244 23 = some (.getfield 39, [12, 20])) hW ha0 (by decide) rfl ?_
  refine en_segs [(26, .iload_n 3, []), (27, .iload_n 2, [])] (by decide +kernel) (y := (28, [some (.ref a0), some (.int p1), some (.int p2), some (.int (40 + (6 * p1)))], [.int p2, .int (40 + (6 * p1)), .ref (aP d 12 20 a0)], h)) rfl ?_
  obtain ⟨c12_3, hc12_3, hF⟩ := ob_some hF
  refine en_iast (by decide +kernel : u_at kl_244 28 = some (.iastore, [])) hW ha0 rfl (by decide) hc12_3 (fun h hW => ?_)
  have hW : HW (mkw c0 c1 c2 c3 c4 c5 c6 c7 c8 c9 c10 c11 c12_3 c13) d h := hW
  refine en_segs [(29, .aload_n 0, [])] (by decide +kernel) (y := (30, [some (.ref a0), some (.int p1), some (.int p2), some (.int (40 + (6 * p1)))], [.ref a0], h)) rfl ?_
  refine en_get (by decide +kernel : u_at kl_244 30 = some (.getfield 39, [12, 20])) hW ha0 (by decide) rfl ?_
  refine en_segs [(33, .iload_n 3, []), (34, .iconst 4, []), (35, .iadd, []), (36, .dup2, [])] (by decide +kernel) (y := (37, [some (.ref a0), some (.int p1), some (.int p2), some (.int (40 + (6 * p1)))], [.int ((40 + (6 * p1)) + 4), .ref (aP d 12 20 a0), .int ((40 + (6 * p1)) + 4), .ref (aP d 12 20 a0)], h)) rfl ?_
  obtain ⟨v4, hv4, hF⟩ := ob_some hF
  refine en_iald (by decide +kernel : u_at kl_244 37 = some (.iaload, [])) hW ha0 rfl (by decide) hv4 ?_
  refine en_segs [(38, .iconst 1, []), (39, .iadd, [])] (by decide +kernel) (y := (40, [some (.ref a0), some (.int p1), some (.int p2), some (.int (40 + (6 * p1)))], [.int (v4 + 1), .int ((40 + (6 * p1)) + 4), .ref (aP d 12 20 a0)], h)) rfl ?_
  obtain ⟨c12_5, hc12_5, hF⟩ := ob_some hF
  refine en_iast (by decide +kernel : u_at kl_244 40 = some (.iastore, [])) hW ha0 rfl (by decide) hc12_5 (fun h hW => ?_)
  have hW : HW (mkw c0 c1 c2 c3 c4 c5 c6 c7 c8 c9 c10 c11 c12_5 c13) d h := hW
  refine en_segs [(41, .aload_n 0, [])] (by decide +kernel) (y := (42, [some (.ref a0), some (.int p1), some (.int p2), some (.int (40 + (6 * p1)))], [.ref a0], h)) rfl ?_
  refine en_get (by decide +kernel : u_at kl_244 42 = some (.getfield 39, [12, 20])) hW ha0 (by decide) rfl ?_
  refine en_segs [(45, .iconst 5, []), (46, .dup2, [])] (by decide +kernel) (y := (47, [some (.ref a0), some (.int p1), some (.int p2), some (.int (40 + (6 * p1)))], [.int 5, .ref (aP d 12 20 a0), .int 5, .ref (aP d 12 20 a0)], h)) rfl ?_
  obtain ⟨v6, hv6, hF⟩ := ob_some hF
  refine en_iald (by decide +kernel : u_at kl_244 47 = some (.iaload, [])) hW ha0 rfl (by decide) hv6 ?_
  refine en_segs [(48, .iconst 1, []), (49, .iadd, [])] (by decide +kernel) (y := (50, [some (.ref a0), some (.int p1), some (.int p2), some (.int (40 + (6 * p1)))], [.int (v6 + 1), .int 5, .ref (aP d 12 20 a0)], h)) rfl ?_
  obtain ⟨c12_7, hc12_7, hF⟩ := ob_some hF
  refine en_iast (by decide +kernel : u_at kl_244 50 = some (.iastore, [])) hW ha0 rfl (by decide) hc12_7 (fun h hW => ?_)
  have hW : HW (mkw c0 c1 c2 c3 c4 c5 c6 c7 c8 c9 c10 c11 c12_7 c13) d h := hW
  obtain rfl := Option.some.inj hF
  exact en_ret (by decide +kernel : u_at kl_244 51 = some (.return_, [])) rfl (hQ _ hW)
def F_245 (c12 : Cl) (a0 : Nat) (p1 : Int32) (p2 : Int32) (p3 : Int32) : Option (Int32 × Cl) :=
  F_221 c12 a0 p1 >>= fun r1 =>
  if r1 = 0 then
  some ((-1), c12)
  else
  F_219 c12 a0 p2 >>= fun r3 =>
  if r3 = 0 then
  some ((-1), c12)
  else
  F_241 c12 a0 p1 p2 >>= fun r5 =>
  if r5 = 0 then
  some ((-1), c12)
  else
  ald (cA c12 20 a0) 221 4 >>= fun v7 =>
  if v7 = 9999 then
  some ((-1), c12)
  else
  F_239 c12 a0 >>= fun r9 =>
  F_223 r9 a0 p1 0 >>= fun r10 =>
  F_244 r9 a0 p1 p2 >>= fun r11 =>
  F_242 r11 a0 >>= fun r12 =>
  ((if p3 = 0 then
  some r12
  else
  F_223 r12 a0 p1 1 >>= fun r18 =>
  F_243 r12 a0 r10 r18 >>= fun r19 =>
  some r19) : Option (Cl)) >>= fun (t13 : Cl) =>
  F_227 t13 a0 >>= fun r15 =>
  ald (cA r15 20 a0) 221 4 >>= fun v16 =>
  some (v16, r15)
set_option maxRecDepth 100000 in
set_option maxHeartbeats 4000000 in
/-- HeadCountsModel.go -/
theorem e_245 {D : Nat} {c0 c1 c2 c3 c4 c5 c6 c7 c8 c9 c10 c11 c12 c13 : Cl} {d : Ad} {h : UH} {a0 : Nat} {p1 : Int32} {p2 : Int32} {p3 : Int32} {r : (Int32 × Cl)} (hD : 6 ≤ D) (hW : HW (mkw c0 c1 c2 c3 c4 c5 c6 c7 c8 c9 c10 c11 c12 c13) d h) (ha0 : aK d a0 = (0, 12, 0)) (hF : F_245 c12 a0 p1 p2 p3 = some r) : ∃ q, EX D 245 [.ref a0, .int p1, .int p2, .int p3] h q ∧ q.1 = some (.int r.1) ∧ HW (mkw c0 c1 c2 c3 c4 c5 c6 c7 c8 c9 c10 c11 r.2 c13) d q.2 := by
  obtain ⟨D, rfl⟩ : ∃ E, D = E + 1 := ⟨D - 1, by omega⟩
  unfold F_245 at hF
  refine ex_in (kl := kl_245) (nL := 5) rfl (by decide +kernel) (Nat.le_of_ble_eq_true rfl) ?_
  obtain ⟨QQ, hQQ⟩ : ∃ QQ : UR → Prop, QQ = (fun q : UR => q.1 = some (.int r.1) ∧ HW (mkw c0 c1 c2 c3 c4 c5 c6 c7 c8 c9 c10 c11 r.2 c13) d q.2) := ⟨_, rfl⟩
  rw [← hQQ]
  have hQ : ∀ h' : UH, HW (mkw c0 c1 c2 c3 c4 c5 c6 c7 c8 c9 c10 c11 r.2 c13) d h' → QQ (some (.int r.1), h') := fun h' p => by rw [hQQ]; exact ⟨rfl, p⟩
  clear hQQ
  show Ends (EX D) (u_at kl_245) (0, [some (.ref a0), some (.int p1), some (.int p2), some (.int p3), none], [], h) QQ
  refine en_segs [(0, .aload_n 0, []), (1, .iload_n 1, [])] (by decide +kernel) (y := (2, [some (.ref a0), some (.int p1), some (.int p2), some (.int p3), none], [.int p1, .ref a0], h)) rfl ?_
  obtain ⟨r1, hr1, hF⟩ := ob_some hF
  refine en_vi (r := []) (by decide +kernel : u_at kl_245 2 = some (.invokevirtual 367, [221, 1, 12])) hW ha0 rfl rfl (Nat.le_of_ble_eq_true rfl) (e_221 (D := D) (by omega) hW ha0 hr1) (fun h' q => ?_)
  subst q
  refine en_if_eq (by decide +kernel : u_at kl_245 5 = some (.ifCond .eq 32, [37])) (fun b2 => ?_) (fun b2 => ?_)
  · replace hF := i_pos b2 hF
    refine en_segs [(37, .iconst (-1), [])] (by decide +kernel) (y := (38, [some (.ref a0), some (.int p1), some (.int p2), some (.int p3), none], [.int (-1)], h)) rfl ?_
    obtain rfl := Option.some.inj hF
    exact en_ret (by decide +kernel : u_at kl_245 38 = some (.ireturn, [0])) rfl (hQ _ hW)
  · replace hF := i_neg b2 hF
    refine en_segs [(8, .aload_n 0, []), (9, .iload_n 2, [])] (by decide +kernel) (y := (10, [some (.ref a0), some (.int p1), some (.int p2), some (.int p3), none], [.int p2, .ref a0], h)) rfl ?_
    obtain ⟨r3, hr3, hF⟩ := ob_some hF
    refine en_vi (r := []) (by decide +kernel : u_at kl_245 10 = some (.invokevirtual 372, [219, 1, 12])) hW ha0 rfl rfl (Nat.le_of_ble_eq_true rfl) (e_219 (D := D) (by omega) hW ha0 hr3) (fun h' q => ?_)
    subst q
    refine en_if_eq (by decide +kernel : u_at kl_245 13 = some (.ifCond .eq 24, [37])) (fun b4 => ?_) (fun b4 => ?_)
    · replace hF := i_pos b4 hF
      refine en_segs [(37, .iconst (-1), [])] (by decide +kernel) (y := (38, [some (.ref a0), some (.int p1), some (.int p2), some (.int p3), none], [.int (-1)], h)) rfl ?_
      obtain rfl := Option.some.inj hF
      exact en_ret (by decide +kernel : u_at kl_245 38 = some (.ireturn, [0])) rfl (hQ _ hW)
    · replace hF := i_neg b4 hF
      refine en_segs [(16, .aload_n 0, []), (17, .iload_n 1, []), (18, .iload_n 2, [])] (by decide +kernel) (y := (19, [some (.ref a0), some (.int p1), some (.int p2), some (.int p3), none], [.int p2, .int p1, .ref a0], h)) rfl ?_
      obtain ⟨r5, hr5, hF⟩ := ob_some hF
      refine en_vi (r := []) (by decide +kernel : u_at kl_245 19 = some (.invokevirtual 394, [241, 2, 12])) hW ha0 rfl rfl (Nat.le_of_ble_eq_true rfl) (e_241 (D := D) (by omega) hW ha0 hr5) (fun h' q => ?_)
      subst q
      refine en_if_eq (by decide +kernel : u_at kl_245 22 = some (.ifCond .eq 15, [37])) (fun b6 => ?_) (fun b6 => ?_)
      · replace hF := i_pos b6 hF
        refine en_segs [(37, .iconst (-1), [])] (by decide +kernel) (y := (38, [some (.ref a0), some (.int p1), some (.int p2), some (.int p3), none], [.int (-1)], h)) rfl ?_
        obtain rfl := Option.some.inj hF
        exact en_ret (by decide +kernel : u_at kl_245 38 = some (.ireturn, [0])) rfl (hQ _ hW)
      · replace hF := i_neg b6 hF
        refine en_segs [(25, .aload_n 0, [])] (by decide +kernel) (y := (26, [some (.ref a0), some (.int p1), some (.int p2), some (.int p3), none], [.ref a0], h)) rfl ?_
        refine en_get (by decide +kernel : u_at kl_245 26 = some (.getfield 39, [12, 20])) hW ha0 (by decide) rfl ?_
        refine en_segs [(29, .iconst 4, [])] (by decide +kernel) (y := (30, [some (.ref a0), some (.int p1), some (.int p2), some (.int p3), none], [.int 4, .ref (aP d 12 20 a0)], h)) rfl ?_
        obtain ⟨v7, hv7, hF⟩ := ob_some hF
        refine en_iald (by decide +kernel : u_at kl_245 30 = some (.iaload, [])) hW ha0 rfl (by decide) hv7 ?_
        refine en_segs [(31, .sipush 9999, [])] (by decide +kernel) (y := (34, [some (.ref a0), some (.int p1), some (.int p2), some (.int p3), none], [.int 9999, .int v7], h)) rfl ?_
        refine en_ic_ne (by decide +kernel : u_at kl_245 34 = some (.if_icmp .ne 5, [39])) (fun b8 => ?_) (fun b8 => ?_)
        · replace hF := i_pos b8 hF
          refine en_segs [(37, .iconst (-1), [])] (by decide +kernel) (y := (38, [some (.ref a0), some (.int p1), some (.int p2), some (.int p3), none], [.int (-1)], h)) rfl ?_
          obtain rfl := Option.some.inj hF
          exact en_ret (by decide +kernel : u_at kl_245 38 = some (.ireturn, [0])) rfl (hQ _ hW)
        · replace hF := i_neg b8 hF
          refine en_segs [(39, .aload_n 0, [])] (by decide +kernel) (y := (40, [some (.ref a0), some (.int p1), some (.int p2), some (.int p3), none], [.ref a0], h)) rfl ?_
          obtain ⟨r9, hr9, hF⟩ := ob_some hF
          refine en_vv (r := []) (by decide +kernel : u_at kl_245 40 = some (.invokevirtual 397, [239, 0, 12])) hW ha0 rfl rfl (Nat.le_of_ble_eq_true rfl) (e_239 (D := D) (by omega) hW ha0 hr9) (fun h hW => ?_)
          have hW : HW (mkw c0 c1 c2 c3 c4 c5 c6 c7 c8 c9 c10 c11 r9 c13) d h := hW
          refine en_segs [(43, .aload_n 0, []), (44, .iload_n 1, []), (45, .iconst 0, [])] (by decide +kernel) (y := (46, [some (.ref a0), some (.int p1), some (.int p2), some (.int p3), none], [.int 0, .int p1, .ref a0], h)) rfl ?_
          obtain ⟨r10, hr10, hF⟩ := ob_some hF
          refine en_vi (r := []) (by decide +kernel : u_at kl_245 46 = some (.invokevirtual 343, [223, 2, 12])) hW ha0 rfl rfl (Nat.le_of_ble_eq_true rfl) (e_223 (D := D) (by omega) hW ha0 hr10) (fun h' q => ?_)
          subst q
          refine en_segs [(49, .istore 4, []), (51, .aload_n 0, []), (52, .iload_n 1, []), (53, .iload_n 2, [])] (by decide +kernel) (y := (54, [some (.ref a0), some (.int p1), some (.int p2), some (.int p3), some (.int r10)], [.int p2, .int p1, .ref a0], h)) rfl ?_
          obtain ⟨r11, hr11, hF⟩ := ob_some hF
          refine en_vv (r := []) (by decide +kernel : u_at kl_245 54 = some (.invokevirtual 400, [244, 2, 12])) hW ha0 rfl rfl (Nat.le_of_ble_eq_true rfl) (e_244 (D := D) (by omega) hW ha0 hr11) (fun h hW => ?_)
          have hW : HW (mkw c0 c1 c2 c3 c4 c5 c6 c7 c8 c9 c10 c11 r11 c13) d h := hW
          refine en_segs [(57, .aload_n 0, [])] (by decide +kernel) (y := (58, [some (.ref a0), some (.int p1), some (.int p2), some (.int p3), some (.int r10)], [.ref a0], h)) rfl ?_
          obtain ⟨r12, hr12, hF⟩ := ob_some hF
          refine en_vv (r := []) (by decide +kernel : u_at kl_245 58 = some (.invokevirtual 403, [242, 0, 12])) hW ha0 rfl rfl (Nat.le_of_ble_eq_true rfl) (e_242 (D := D) (by omega) hW ha0 hr12) (fun h hW => ?_)
          have hW : HW (mkw c0 c1 c2 c3 c4 c5 c6 c7 c8 c9 c10 c11 r12 c13) d h := hW
          refine en_segs [(61, .iload_n 3, [])] (by decide +kernel) (y := (62, [some (.ref a0), some (.int p1), some (.int p2), some (.int p3), some (.int r10)], [.int p3], h)) rfl ?_
          obtain ⟨t13, hX, hK⟩ := ob_some hF
          have j14 : ∀ h : UH, HW (mkw c0 c1 c2 c3 c4 c5 c6 c7 c8 c9 c10 c11 t13 c13) d h → Ends (EX D) (u_at kl_245) (77, [some (.ref a0), some (.int p1), some (.int p2), some (.int p3), some (.int r10)], [], h) QQ := by
            intro h hW
            have hF := hK
            refine en_segs [(77, .aload_n 0, [])] (by decide +kernel) (y := (78, [some (.ref a0), some (.int p1), some (.int p2), some (.int p3), some (.int r10)], [.ref a0], h)) rfl ?_
            obtain ⟨r15, hr15, hF⟩ := ob_some hF
            refine en_vv (r := []) (by decide +kernel : u_at kl_245 78 = some (.invokevirtual 325, [227, 0, 12])) hW ha0 rfl rfl (Nat.le_of_ble_eq_true rfl) (e_227 (D := D) (by omega) hW ha0 hr15) (fun h hW => ?_)
            have hW : HW (mkw c0 c1 c2 c3 c4 c5 c6 c7 c8 c9 c10 c11 r15 c13) d h := hW
            refine en_segs [(81, .aload_n 0, [])] (by decide +kernel) (y := (82, [some (.ref a0), some (.int p1), some (.int p2), some (.int p3), some (.int r10)], [.ref a0], h)) rfl ?_
            refine en_get (by decide +kernel : u_at kl_245 82 = some (.getfield 39, [12, 20])) hW ha0 (by decide) rfl ?_
            refine en_segs [(85, .iconst 4, [])] (by decide +kernel) (y := (86, [some (.ref a0), some (.int p1), some (.int p2), some (.int p3), some (.int r10)], [.int 4, .ref (aP d 12 20 a0)], h)) rfl ?_
            obtain ⟨v16, hv16, hF⟩ := ob_some hF
            refine en_iald (by decide +kernel : u_at kl_245 86 = some (.iaload, [])) hW ha0 rfl (by decide) hv16 ?_
            obtain rfl := Option.some.inj hF
            exact en_ret (by decide +kernel : u_at kl_245 87 = some (.ireturn, [0])) rfl (hQ _ hW)
          have hF := hX
          refine en_if_eq (by decide +kernel : u_at kl_245 62 = some (.ifCond .eq 15, [77])) (fun b17 => ?_) (fun b17 => ?_)
          · replace hF := i_pos b17 hF
            obtain rfl := Option.some.inj hF
            exact j14 _ hW
          · replace hF := i_neg b17 hF
            refine en_segs [(65, .aload_n 0, []), (66, .iload 4, []), (68, .aload_n 0, []), (69, .iload_n 1, []), (70, .iconst 1, [])] (by decide +kernel) (y := (71, [some (.ref a0), some (.int p1), some (.int p2), some (.int p3), some (.int r10)], [.int 1, .int p1, .ref a0, .int r10, .ref a0], h)) rfl ?_
            obtain ⟨r18, hr18, hF⟩ := ob_some hF
            refine en_vi (r := [.int r10, .ref a0]) (by decide +kernel : u_at kl_245 71 = some (.invokevirtual 343, [223, 2, 12])) hW ha0 rfl rfl (Nat.le_of_ble_eq_true rfl) (e_223 (D := D) (by omega) hW ha0 hr18) (fun h' q => ?_)
            subst q
            obtain ⟨r19, hr19, hF⟩ := ob_some hF
            refine en_vv (r := []) (by decide +kernel : u_at kl_245 74 = some (.invokevirtual 406, [243, 2, 12])) hW ha0 rfl rfl (Nat.le_of_ble_eq_true rfl) (e_243 (D := D) (by omega) hW ha0 hr19) (fun h hW => ?_)
            have hW : HW (mkw c0 c1 c2 c3 c4 c5 c6 c7 c8 c9 c10 c11 r19 c13) d h := hW
            obtain rfl := Option.some.inj hF
            exact j14 _ hW
def F_246 (c12 : Cl) (a0 : Nat) : Option (Int32 × Cl) :=
  F_218 c12 a0 >>= fun r1 =>
  if r1 = 0 then
  some ((-1), c12)
  else
  ald (cA c12 20 a0) 221 4 >>= fun v3 =>
  if v3 = 9999 then
  some ((-1), c12)
  else
  F_239 c12 a0 >>= fun r5 =>
  F_242 r5 a0 >>= fun r6 =>
  F_227 r6 a0 >>= fun r7 =>
  ald (cA r7 20 a0) 221 4 >>= fun v8 =>
  some (v8, r7)
set_option maxRecDepth 100000 in
set_option maxHeartbeats 4000000 in
/-- HeadCountsModel.rest -/
theorem e_246 {D : Nat} {c0 c1 c2 c3 c4 c5 c6 c7 c8 c9 c10 c11 c12 c13 : Cl} {d : Ad} {h : UH} {a0 : Nat} {r : (Int32 × Cl)} (hD : 6 ≤ D) (hW : HW (mkw c0 c1 c2 c3 c4 c5 c6 c7 c8 c9 c10 c11 c12 c13) d h) (ha0 : aK d a0 = (0, 12, 0)) (hF : F_246 c12 a0 = some r) : ∃ q, EX D 246 [.ref a0] h q ∧ q.1 = some (.int r.1) ∧ HW (mkw c0 c1 c2 c3 c4 c5 c6 c7 c8 c9 c10 c11 r.2 c13) d q.2 := by
  obtain ⟨D, rfl⟩ : ∃ E, D = E + 1 := ⟨D - 1, by omega⟩
  unfold F_246 at hF
  refine ex_in (kl := kl_246) (nL := 1) rfl (by decide +kernel) (Nat.le_of_ble_eq_true rfl) ?_
  obtain ⟨QQ, hQQ⟩ : ∃ QQ : UR → Prop, QQ = (fun q : UR => q.1 = some (.int r.1) ∧ HW (mkw c0 c1 c2 c3 c4 c5 c6 c7 c8 c9 c10 c11 r.2 c13) d q.2) := ⟨_, rfl⟩
  rw [← hQQ]
  have hQ : ∀ h' : UH, HW (mkw c0 c1 c2 c3 c4 c5 c6 c7 c8 c9 c10 c11 r.2 c13) d h' → QQ (some (.int r.1), h') := fun h' p => by rw [hQQ]; exact ⟨rfl, p⟩
  clear hQQ
  show Ends (EX D) (u_at kl_246) (0, [some (.ref a0)], [], h) QQ
  refine en_segs [(0, .aload_n 0, [])] (by decide +kernel) (y := (1, [some (.ref a0)], [.ref a0], h)) rfl ?_
  obtain ⟨r1, hr1, hF⟩ := ob_some hF
  refine en_vi (r := []) (by decide +kernel : u_at kl_246 1 = some (.invokevirtual 409, [218, 0, 12])) hW ha0 rfl rfl (Nat.le_of_ble_eq_true rfl) (e_218 (D := D) (by omega) hW ha0 hr1) (fun h' q => ?_)
  subst q
  refine en_if_eq (by decide +kernel : u_at kl_246 4 = some (.ifCond .eq 15, [19])) (fun b2 => ?_) (fun b2 => ?_)
  · replace hF := i_pos b2 hF
    refine en_segs [(19, .iconst (-1), [])] (by decide +kernel) (y := (20, [some (.ref a0)], [.int (-1)], h)) rfl ?_
    obtain rfl := Option.some.inj hF
    exact en_ret (by decide +kernel : u_at kl_246 20 = some (.ireturn, [0])) rfl (hQ _ hW)
  · replace hF := i_neg b2 hF
    refine en_segs [(7, .aload_n 0, [])] (by decide +kernel) (y := (8, [some (.ref a0)], [.ref a0], h)) rfl ?_
    refine en_get (by decide +kernel : u_at kl_246 8 = some (.getfield 39, [12, 20])) hW ha0 (by decide) rfl ?_
    refine en_segs [(11, .iconst 4, [])] (by decide +kernel) (y := (12, [some (.ref a0)], [.int 4, .ref (aP d 12 20 a0)], h)) rfl ?_
    obtain ⟨v3, hv3, hF⟩ := ob_some hF
    refine en_iald (by decide +kernel : u_at kl_246 12 = some (.iaload, [])) hW ha0 rfl (by decide) hv3 ?_
    refine en_segs [(13, .sipush 9999, [])] (by decide +kernel) (y := (16, [some (.ref a0)], [.int 9999, .int v3], h)) rfl ?_
    refine en_ic_ne (by decide +kernel : u_at kl_246 16 = some (.if_icmp .ne 5, [21])) (fun b4 => ?_) (fun b4 => ?_)
    · replace hF := i_pos b4 hF
      refine en_segs [(19, .iconst (-1), [])] (by decide +kernel) (y := (20, [some (.ref a0)], [.int (-1)], h)) rfl ?_
      obtain rfl := Option.some.inj hF
      exact en_ret (by decide +kernel : u_at kl_246 20 = some (.ireturn, [0])) rfl (hQ _ hW)
    · replace hF := i_neg b4 hF
      refine en_segs [(21, .aload_n 0, [])] (by decide +kernel) (y := (22, [some (.ref a0)], [.ref a0], h)) rfl ?_
      obtain ⟨r5, hr5, hF⟩ := ob_some hF
      refine en_vv (r := []) (by decide +kernel : u_at kl_246 22 = some (.invokevirtual 397, [239, 0, 12])) hW ha0 rfl rfl (Nat.le_of_ble_eq_true rfl) (e_239 (D := D) (by omega) hW ha0 hr5) (fun h hW => ?_)
      have hW : HW (mkw c0 c1 c2 c3 c4 c5 c6 c7 c8 c9 c10 c11 r5 c13) d h := hW
      refine en_segs [(25, .aload_n 0, [])] (by decide +kernel) (y := (26, [some (.ref a0)], [.ref a0], h)) rfl ?_
      obtain ⟨r6, hr6, hF⟩ := ob_some hF
      refine en_vv (r := []) (by decide +kernel : u_at kl_246 26 = some (.invokevirtual 403, [242, 0, 12])) hW ha0 rfl rfl (Nat.le_of_ble_eq_true rfl) (e_242 (D := D) (by omega) hW ha0 hr6) (fun h hW => ?_)
      have hW : HW (mkw c0 c1 c2 c3 c4 c5 c6 c7 c8 c9 c10 c11 r6 c13) d h := hW
      refine en_segs [(29, .aload_n 0, [])] (by decide +kernel) (y := (30, [some (.ref a0)], [.ref a0], h)) rfl ?_
      obtain ⟨r7, hr7, hF⟩ := ob_some hF
      refine en_vv (r := []) (by decide +kernel : u_at kl_246 30 = some (.invokevirtual 325, [227, 0, 12])) hW ha0 rfl rfl (Nat.le_of_ble_eq_true rfl) (e_227 (D := D) (by omega) hW ha0 hr7) (fun h hW => ?_)
      have hW : HW (mkw c0 c1 c2 c3 c4 c5 c6 c7 c8 c9 c10 c11 r7 c13) d h := hW
      refine en_segs [(33, .aload_n 0, [])] (by decide +kernel) (y := (34, [some (.ref a0)], [.ref a0], h)) rfl ?_
      refine en_get (by decide +kernel : u_at kl_246 34 = some (.getfield 39, [12, 20])) hW ha0 (by decide) rfl ?_
      refine en_segs [(37, .iconst 4, [])] (by decide +kernel) (y := (38, [some (.ref a0)], [.int 4, .ref (aP d 12 20 a0)], h)) rfl ?_
      obtain ⟨v8, hv8, hF⟩ := ob_some hF
      refine en_iald (by decide +kernel : u_at kl_246 38 = some (.iaload, [])) hW ha0 rfl (by decide) hv8 ?_
      obtain rfl := Option.some.inj hF
      exact en_ret (by decide +kernel : u_at kl_246 39 = some (.ireturn, [0])) rfl (hQ _ hW)
def F_247 (c12 : Cl) (a0 : Nat) (p1 : Int32) : Option (Int32 × Cl) :=
  F_221 c12 a0 p1 >>= fun r1 =>
  if r1 = 0 then
  some (0, c12)
  else
  F_224 c12 a0 p1 >>= fun r3 =>
  if r3 = 0 then
  some (0, c12)
  else
  ald (cA c12 20 a0) 221 4 >>= fun v5 =>
  ald (cA c12 20 a0) 221 7 >>= fun v6 =>
  ast c12 20 a0 221 ((40 + (6 * p1)) + 5) (v5 + v6) >>= fun c12_7 =>
  some (1, c12_7)
set_option maxRecDepth 100000 in
set_option maxHeartbeats 4000000 in
/-- HeadCountsModel.die -/
theorem e_247 {D : Nat} {c0 c1 c2 c3 c4 c5 c6 c7 c8 c9 c10 c11 c12 c13 : Cl} {d : Ad} {h : UH} {a0 : Nat} {p1 : Int32} {r : (Int32 × Cl)} (hD : 3 ≤ D) (hW : HW (mkw c0 c1 c2 c3 c4 c5 c6 c7 c8 c9 c10 c11 c12 c13) d h) (ha0 : aK d a0 = (0, 12, 0)) (hF : F_247 c12 a0 p1 = some r) : ∃ q, EX D 247 [.ref a0, .int p1] h q ∧ q.1 = some (.int r.1) ∧ HW (mkw c0 c1 c2 c3 c4 c5 c6 c7 c8 c9 c10 c11 r.2 c13) d q.2 := by
  obtain ⟨D, rfl⟩ : ∃ E, D = E + 1 := ⟨D - 1, by omega⟩
  unfold F_247 at hF
  refine ex_in (kl := kl_247) (nL := 2) rfl (by decide +kernel) (Nat.le_of_ble_eq_true rfl) ?_
  obtain ⟨QQ, hQQ⟩ : ∃ QQ : UR → Prop, QQ = (fun q : UR => q.1 = some (.int r.1) ∧ HW (mkw c0 c1 c2 c3 c4 c5 c6 c7 c8 c9 c10 c11 r.2 c13) d q.2) := ⟨_, rfl⟩
  rw [← hQQ]
  have hQ : ∀ h' : UH, HW (mkw c0 c1 c2 c3 c4 c5 c6 c7 c8 c9 c10 c11 r.2 c13) d h' → QQ (some (.int r.1), h') := fun h' p => by rw [hQQ]; exact ⟨rfl, p⟩
  clear hQQ
  show Ends (EX D) (u_at kl_247) (0, [some (.ref a0), some (.int p1)], [], h) QQ
  refine en_segs [(0, .aload_n 0, []), (1, .iload_n 1, [])] (by decide +kernel) (y := (2, [some (.ref a0), some (.int p1)], [.int p1, .ref a0], h)) rfl ?_
  obtain ⟨r1, hr1, hF⟩ := ob_some hF
  refine en_vi (r := []) (by decide +kernel : u_at kl_247 2 = some (.invokevirtual 367, [221, 1, 12])) hW ha0 rfl rfl (Nat.le_of_ble_eq_true rfl) (e_221 (D := D) (by omega) hW ha0 hr1) (fun h' q => ?_)
  subst q
  refine en_if_eq (by decide +kernel : u_at kl_247 5 = some (.ifCond .eq 11, [16])) (fun b2 => ?_) (fun b2 => ?_)
  · replace hF := i_pos b2 hF
    refine en_segs [(16, .iconst 0, [])] (by decide +kernel) (y := (17, [some (.ref a0), some (.int p1)], [.int 0], h)) rfl ?_
    obtain rfl := Option.some.inj hF
    exact en_ret (by decide +kernel : u_at kl_247 17 = some (.ireturn, [1])) rfl (hQ _ hW)
  · replace hF := i_neg b2 hF
    refine en_segs [(8, .aload_n 0, []), (9, .iload_n 1, [])] (by decide +kernel) (y := (10, [some (.ref a0), some (.int p1)], [.int p1, .ref a0], h)) rfl ?_
    obtain ⟨r3, hr3, hF⟩ := ob_some hF
    refine en_vi (r := []) (by decide +kernel : u_at kl_247 10 = some (.invokevirtual 346, [224, 1, 12])) hW ha0 rfl rfl (Nat.le_of_ble_eq_true rfl) (e_224 (D := D) (by omega) hW ha0 hr3) (fun h' q => ?_)
    subst q
    refine en_if_ne (by decide +kernel : u_at kl_247 13 = some (.ifCond .ne 5, [18])) (fun b4 => ?_) (fun b4 => ?_)
    · replace hF := i_pos b4 hF
      refine en_segs [(16, .iconst 0, [])] (by decide +kernel) (y := (17, [some (.ref a0), some (.int p1)], [.int 0], h)) rfl ?_
      obtain rfl := Option.some.inj hF
      exact en_ret (by decide +kernel : u_at kl_247 17 = some (.ireturn, [1])) rfl (hQ _ hW)
    · replace hF := i_neg b4 hF
      refine en_segs [(18, .aload_n 0, [])] (by decide +kernel) (y := (19, [some (.ref a0), some (.int p1)], [.ref a0], h)) rfl ?_
      refine en_get (by decide +kernel : u_at kl_247 19 = some (.getfield 39, [12, 20])) hW ha0 (by decide) rfl ?_
      refine en_segs [(22, .bipush 40, []), (24, .bipush 6, []), (26, .iload_n 1, []), (27, .imul, []), (28, .iadd, []), (29, .iconst 5, []), (30, .iadd, []), (31, .aload_n 0, [])] (by decide +kernel) (y := (32, [some (.ref a0), some (.int p1)], [.ref a0, .int ((40 + (6 * p1)) + 5), .ref (aP d 12 20 a0)], h)) rfl ?_
      refine en_get (by decide +kernel : u_at kl_247 32 = some (.getfield 39, [12, 20])) hW ha0 (by decide) rfl ?_
      refine en_segs [(35, .iconst 4, [])] (by decide +kernel) (y := (36, [some (.ref a0), some (.int p1)], [.int 4, .ref (aP d 12 20 a0), .int ((40 + (6 * p1)) + 5), .ref (aP d 12 20 a0)], h)) rfl ?_
      obtain ⟨v5, hv5, hF⟩ := ob_some hF
      refine en_iald (by decide +kernel : u_at kl_247 36 = some (.iaload, [])) hW ha0 rfl (by decide) hv5 ?_
      refine en_segs [(37, .aload_n 0, [])] (by decide +kernel) (y := (38, [some (.ref a0), some (.int p1)], [.ref a0, .int v5, .int ((40 + (6 * p1)) + 5), .ref (aP d 12 20 a0)], h)) rfl ?_
      refine en_get (by decide +kernel : u_at kl_247 38 = some (.getfield 39, [12, 20])) hW ha0 (by decide) rfl ?_
      refine en_segs [(41, .bipush 7, [])] (by decide +kernel) (y := (43, [some (.ref a0), some (.int p1)], [.int 7, .ref (aP d 12 20 a0), .int v5, .int ((40 + (6 * p1)) + 5), .ref (aP d 12 20 a0)], h)) rfl ?_
      obtain ⟨v6, hv6, hF⟩ := ob_some hF
      refine en_iald (by decide +kernel : u_at kl_247 43 = some (.iaload, [])) hW ha0 rfl (by decide) hv6 ?_
      refine en_segs [(44, .iadd, [])] (by decide +kernel) (y := (45, [some (.ref a0), some (.int p1)], [.int (v5 + v6), .int ((40 + (6 * p1)) + 5), .ref (aP d 12 20 a0)], h)) rfl ?_
      obtain ⟨c12_7, hc12_7, hF⟩ := ob_some hF
      refine en_iast (by decide +kernel : u_at kl_247 45 = some (.iastore, [])) hW ha0 rfl (by decide) hc12_7 (fun h hW => ?_)
      have hW : HW (mkw c0 c1 c2 c3 c4 c5 c6 c7 c8 c9 c10 c11 c12_7 c13) d h := hW
      refine en_segs [(46, .iconst 1, [])] (by decide +kernel) (y := (47, [some (.ref a0), some (.int p1)], [.int 1], h)) rfl ?_
      obtain rfl := Option.some.inj hF
      exact en_ret (by decide +kernel : u_at kl_247 47 = some (.ireturn, [1])) rfl (hQ _ hW)
def F_248 (c12 : Cl) (a0 : Nat) (p1 : Int32) (p2 : Int32) : Option (Int32 × Cl) :=
  F_220 c12 a0 p1 >>= fun r1 =>
  if r1 = 0 then
  some (0, c12)
  else
  ald (cA c12 20 a0) 221 ((10 + (3 * p1)) + 2) >>= fun v3 =>
  ((if v3 = 1 then
  some 1
  else
  some 0) : Option (Int32)) >>= fun (t4 : Int32) =>
  if t4 = p2 then
  some (0, c12)
  else
  ((if p2 = 0 then
  some 0
  else
  some 1) : Option (Int32)) >>= fun (t7 : Int32) =>
  ast c12 20 a0 221 ((10 + (3 * p1)) + 2) t7 >>= fun c12_9 =>
  some (1, c12_9)
set_option maxRecDepth 100000 in
set_option maxHeartbeats 4000000 in
/-- HeadCountsModel.open -/
theorem e_248 {D : Nat} {c0 c1 c2 c3 c4 c5 c6 c7 c8 c9 c10 c11 c12 c13 : Cl} {d : Ad} {h : UH} {a0 : Nat} {p1 : Int32} {p2 : Int32} {r : (Int32 × Cl)} (hD : 2 ≤ D) (hW : HW (mkw c0 c1 c2 c3 c4 c5 c6 c7 c8 c9 c10 c11 c12 c13) d h) (ha0 : aK d a0 = (0, 12, 0)) (hF : F_248 c12 a0 p1 p2 = some r) : ∃ q, EX D 248 [.ref a0, .int p1, .int p2] h q ∧ q.1 = some (.int r.1) ∧ HW (mkw c0 c1 c2 c3 c4 c5 c6 c7 c8 c9 c10 c11 r.2 c13) d q.2 := by
  obtain ⟨D, rfl⟩ : ∃ E, D = E + 1 := ⟨D - 1, by omega⟩
  unfold F_248 at hF
  refine ex_in (kl := kl_248) (nL := 3) rfl (by decide +kernel) (Nat.le_of_ble_eq_true rfl) ?_
  obtain ⟨QQ, hQQ⟩ : ∃ QQ : UR → Prop, QQ = (fun q : UR => q.1 = some (.int r.1) ∧ HW (mkw c0 c1 c2 c3 c4 c5 c6 c7 c8 c9 c10 c11 r.2 c13) d q.2) := ⟨_, rfl⟩
  rw [← hQQ]
  have hQ : ∀ h' : UH, HW (mkw c0 c1 c2 c3 c4 c5 c6 c7 c8 c9 c10 c11 r.2 c13) d h' → QQ (some (.int r.1), h') := fun h' p => by rw [hQQ]; exact ⟨rfl, p⟩
  clear hQQ
  show Ends (EX D) (u_at kl_248) (0, [some (.ref a0), some (.int p1), some (.int p2)], [], h) QQ
  refine en_segs [(0, .aload_n 0, []), (1, .iload_n 1, [])] (by decide +kernel) (y := (2, [some (.ref a0), some (.int p1), some (.int p2)], [.int p1, .ref a0], h)) rfl ?_
  obtain ⟨r1, hr1, hF⟩ := ob_some hF
  refine en_vi (r := []) (by decide +kernel : u_at kl_248 2 = some (.invokevirtual 381, [220, 1, 12])) hW ha0 rfl rfl (Nat.le_of_ble_eq_true rfl) (e_220 (D := D) (by omega) hW ha0 hr1) (fun h' q => ?_)
  subst q
  refine en_if_eq (by decide +kernel : u_at kl_248 5 = some (.ifCond .eq 29, [34])) (fun b2 => ?_) (fun b2 => ?_)
  · replace hF := i_pos b2 hF
    refine en_segs [(34, .iconst 0, [])] (by decide +kernel) (y := (35, [some (.ref a0), some (.int p1), some (.int p2)], [.int 0], h)) rfl ?_
    obtain rfl := Option.some.inj hF
    exact en_ret (by decide +kernel : u_at kl_248 35 = some (.ireturn, [1])) rfl (hQ _ hW)
  · replace hF := i_neg b2 hF
    refine en_segs [(8, .aload_n 0, [])] (by decide +kernel) (y := (9, [some (.ref a0), some (.int p1), some (.int p2)], [.ref a0], h)) rfl ?_
    refine en_get (by decide +kernel : u_at kl_248 9 = some (.getfield 39, [12, 20])) hW ha0 (by decide) rfl ?_
    refine en_segs [(12, .bipush 10, []), (14, .iconst 3, []), (15, .iload_n 1, []), (16, .imul, []), (17, .iadd, []), (18, .iconst 2, []), (19, .iadd, [])] (by decide +kernel) (y := (20, [some (.ref a0), some (.int p1), some (.int p2)], [.int ((10 + (3 * p1)) + 2), .ref (aP d 12 20 a0)], h)) rfl ?_
    obtain ⟨v3, hv3, hF⟩ := ob_some hF
    refine en_iald (by decide +kernel : u_at kl_248 20 = some (.iaload, [])) hW ha0 rfl (by decide) hv3 ?_
    refine en_segs [(21, .iconst 1, [])] (by decide +kernel) (y := (22, [some (.ref a0), some (.int p1), some (.int p2)], [.int 1, .int v3], h)) rfl ?_
    obtain ⟨t4, hX, hK⟩ := ob_some hF
    have j5 : ∀ h : UH, HW (mkw c0 c1 c2 c3 c4 c5 c6 c7 c8 c9 c10 c11 c12 c13) d h → Ends (EX D) (u_at kl_248) (30, [some (.ref a0), some (.int p1), some (.int p2)], [.int t4], h) QQ := by
      intro h hW
      have hF := hK
      refine en_segs [(30, .iload_n 2, [])] (by decide +kernel) (y := (31, [some (.ref a0), some (.int p1), some (.int p2)], [.int p2, .int t4], h)) rfl ?_
      refine en_ic_ne (by decide +kernel : u_at kl_248 31 = some (.if_icmp .ne 5, [36])) (fun b6 => ?_) (fun b6 => ?_)
      · replace hF := i_pos b6 hF
        refine en_segs [(34, .iconst 0, [])] (by decide +kernel) (y := (35, [some (.ref a0), some (.int p1), some (.int p2)], [.int 0], h)) rfl ?_
        obtain rfl := Option.some.inj hF
        exact en_ret (by decide +kernel : u_at kl_248 35 = some (.ireturn, [1])) rfl (hQ _ hW)
      · replace hF := i_neg b6 hF
        refine en_segs [(36, .aload_n 0, [])] (by decide +kernel) (y := (37, [some (.ref a0), some (.int p1), some (.int p2)], [.ref a0], h)) rfl ?_
        refine en_get (by decide +kernel : u_at kl_248 37 = some (.getfield 39, [12, 20])) hW ha0 (by decide) rfl ?_
        refine en_segs [(40, .bipush 10, []), (42, .iconst 3, []), (43, .iload_n 1, []), (44, .imul, []), (45, .iadd, []), (46, .iconst 2, []), (47, .iadd, []), (48, .iload_n 2, [])] (by decide +kernel) (y := (49, [some (.ref a0), some (.int p1), some (.int p2)], [.int p2, .int ((10 + (3 * p1)) + 2), .ref (aP d 12 20 a0)], h)) rfl ?_
        obtain ⟨t7, hX, hK⟩ := ob_some hF
        have j8 : ∀ h : UH, HW (mkw c0 c1 c2 c3 c4 c5 c6 c7 c8 c9 c10 c11 c12 c13) d h → Ends (EX D) (u_at kl_248) (57, [some (.ref a0), some (.int p1), some (.int p2)], [.int t7, .int ((10 + (3 * p1)) + 2), .ref (aP d 12 20 a0)], h) QQ := by
          intro h hW
          have hF := hK
          obtain ⟨c12_9, hc12_9, hF⟩ := ob_some hF
          refine en_iast (by decide +kernel : u_at kl_248 57 = some (.iastore, [])) hW ha0 rfl (by decide) hc12_9 (fun h hW => ?_)
          have hW : HW (mkw c0 c1 c2 c3 c4 c5 c6 c7 c8 c9 c10 c11 c12_9 c13) d h := hW
          refine en_segs [(58, .iconst 1, [])] (by decide +kernel) (y := (59, [some (.ref a0), some (.int p1), some (.int p2)], [.int 1], h)) rfl ?_
          obtain rfl := Option.some.inj hF
          exact en_ret (by decide +kernel : u_at kl_248 59 = some (.ireturn, [1])) rfl (hQ _ hW)
        have hF := hX
        refine en_if_eq (by decide +kernel : u_at kl_248 49 = some (.ifCond .eq 7, [56])) (fun b10 => ?_) (fun b10 => ?_)
        · replace hF := i_pos b10 hF
          refine en_segs [(56, .iconst 0, [])] (by decide +kernel) (y := (57, [some (.ref a0), some (.int p1), some (.int p2)], [.int 0, .int ((10 + (3 * p1)) + 2), .ref (aP d 12 20 a0)], h)) rfl ?_
          obtain rfl := Option.some.inj hF
          exact j8 _ hW
        · replace hF := i_neg b10 hF
          refine en_segs [(52, .iconst 1, []), (53, .goto 4, [57])] (by decide +kernel) (y := (57, [some (.ref a0), some (.int p1), some (.int p2)], [.int 1, .int ((10 + (3 * p1)) + 2), .ref (aP d 12 20 a0)], h)) rfl ?_
          obtain rfl := Option.some.inj hF
          exact j8 _ hW
    have hF := hX
    refine en_ic_ne (by decide +kernel : u_at kl_248 22 = some (.if_icmp .ne 7, [29])) (fun b11 => ?_) (fun b11 => ?_)
    · replace hF := i_pos b11 hF
      refine en_segs [(25, .iconst 1, []), (26, .goto 4, [30])] (by decide +kernel) (y := (30, [some (.ref a0), some (.int p1), some (.int p2)], [.int 1], h)) rfl ?_
      obtain rfl := Option.some.inj hF
      exact j5 _ hW
    · replace hF := i_neg b11 hF
      refine en_segs [(29, .iconst 0, [])] (by decide +kernel) (y := (30, [some (.ref a0), some (.int p1), some (.int p2)], [.int 0], h)) rfl ?_
      obtain rfl := Option.some.inj hF
      exact j5 _ hW
def G_249 (c12 : Cl) (a0 : Nat) (lab : Nat) (xs : List Int32) (ys : List Int64) (zs : List Nat) : Option Cl := match lab, xs, ys, zs with
  | 0, [x1, x2, x3, x4], [], [] =>
    ald (cA c12 20 a0) 221 0 >>= fun v1 =>
    if v1 ≤ x4 then
    stl c12 19 a0 12 0 ((x1 : Int32).toInt64) >>= fun c12_3 =>
    F_223 c12_3 a0 x1 1 >>= fun r4 =>
    stl c12_3 19 a0 12 1 ((r4 : Int32).toInt64) >>= fun c12_5 =>
    F_223 c12_5 a0 x1 0 >>= fun r6 =>
    stl c12_5 19 a0 12 2 ((r6 : Int32).toInt64) >>= fun c12_7 =>
    F_223 c12_7 a0 x1 2 >>= fun r8 =>
    stl c12_7 19 a0 12 3 ((r8 : Int32).toInt64) >>= fun c12_9 =>
    F_223 c12_9 a0 x1 3 >>= fun r10 =>
    ((if 0 ≤ r10 then
    F_223 c12_9 a0 x1 3 >>= fun r40 =>
    some ((r40 : Int32).toInt64)
    else
    some 99) : Option (Int64)) >>= fun (t11 : Int64) =>
    stl c12_9 19 a0 12 4 t11 >>= fun c12_13 =>
    F_223 c12_13 a0 x1 0 >>= fun r14 =>
    F_230 c12_13 a0 r14 >>= fun r15 =>
    stl c12_13 19 a0 12 5 ((r15 : Int32).toInt64) >>= fun c12_16 =>
    ((if 0 ≤ x2 then
    some ((x2 : Int32).toInt64)
    else
    some 99) : Option (Int64)) >>= fun (t17 : Int64) =>
    stl c12_16 19 a0 12 6 t17 >>= fun c12_19 =>
    ((if 0 ≤ x3 then
    some ((x3 : Int32).toInt64)
    else
    some 99) : Option (Int64)) >>= fun (t20 : Int64) =>
    stl c12_19 19 a0 12 7 t20 >>= fun c12_22 =>
    ((if 0 ≤ x2 then
    F_230 c12_22 a0 x2 >>= fun r36 =>
    some ((r36 : Int32).toInt64)
    else
    some 0) : Option (Int64)) >>= fun (t23 : Int64) =>
    stl c12_22 19 a0 12 8 t23 >>= fun c12_25 =>
    ((if 0 ≤ x3 then
    F_230 c12_25 a0 x3 >>= fun r34 =>
    some ((r34 : Int32).toInt64)
    else
    some 0) : Option (Int64)) >>= fun (t26 : Int64) =>
    stl c12_25 19 a0 12 9 t26 >>= fun c12_28 =>
    F_223 c12_28 a0 x1 4 >>= fun r29 =>
    stl c12_28 19 a0 12 10 ((r29 : Int32).toInt64) >>= fun c12_30 =>
    ald (cA c12_30 20 a0) 221 4 >>= fun v31 =>
    stl c12_30 19 a0 12 11 ((v31 : Int32).toInt64) >>= fun c12_32 =>
    some c12_32
    else
    F_241 c12 a0 x1 x4 >>= fun r41 =>
    if r41 = 0 then
    G_249 c12 a0 0 [x1, x2, x3, x4 + 1] [] []
    else
    ((if x2 < 0 then
    some x4
    else
    F_230 c12 a0 x4 >>= fun r52 =>
    F_230 c12 a0 x2 >>= fun r53 =>
    if r53 ≤ r52 then
    some x2
    else
    some x4) : Option (Int32)) >>= fun (t43 : Int32) =>
    ((if x3 < 0 then
    some x4
    else
    F_230 c12 a0 x4 >>= fun r48 =>
    F_230 c12 a0 x3 >>= fun r49 =>
    if r48 ≤ r49 then
    some x3
    else
    some x4) : Option (Int32)) >>= fun (t45 : Int32) =>
    G_249 c12 a0 0 [x1, t43, t45, x4 + 1] [] []
  | _, _, _, _ => none
partial_fixpoint
set_option maxRecDepth 100000 in
set_option maxHeartbeats 4000000 in
theorem g_249 {D : Nat} (hD : 7 ≤ D + 1) {c0 c1 c2 c3 c4 c5 c6 c7 c8 c9 c10 c11 c12 c13 : Cl} {d : Ad} {a0 : Nat} (ha0 : aK d a0 = (0, 12, 0)) : ∀ (lab : Nat) (xs : List Int32) (ys : List Int64) (zs : List Nat) (r : Cl), G_249 c12 a0 lab xs ys zs = some r →
    (∀ (x1 : Int32) (x2 : Int32) (x3 : Int32) (x4 : Int32), lab = 0 → xs = [x1, x2, x3, x4] → ys = [] → zs = [] → ∀ h : UH, HW (mkw c0 c1 c2 c3 c4 c5 c6 c7 c8 c9 c10 c11 c12 c13) d h → ∀ QQ : UR → Prop, (∀ h' : UH, HW (mkw c0 c1 c2 c3 c4 c5 c6 c7 c8 c9 c10 c11 r c13) d h' → QQ (none, h')) → Ends (EX D) (u_at kl_249) (7, [some (.ref a0), some (.int x1), some (.int x2), some (.int x3), some (.int x4)], [], h) QQ) := by
  refine G_249.partial_correctness _ _ (motive := fun lab xs ys zs r =>
    (∀ (x1 : Int32) (x2 : Int32) (x3 : Int32) (x4 : Int32), lab = 0 → xs = [x1, x2, x3, x4] → ys = [] → zs = [] → ∀ h : UH, HW (mkw c0 c1 c2 c3 c4 c5 c6 c7 c8 c9 c10 c11 c12 c13) d h → ∀ QQ : UR → Prop, (∀ h' : UH, HW (mkw c0 c1 c2 c3 c4 c5 c6 c7 c8 c9 c10 c11 r c13) d h' → QQ (none, h')) → Ends (EX D) (u_at kl_249) (7, [some (.ref a0), some (.int x1), some (.int x2), some (.int x3), some (.int x4)], [], h) QQ)) ?_
  intro G ih lab xs ys zs r hF
  · intro x1 x2 x3 x4 e1 e2 e3 e4 h hW QQ hQ
    subst e1 e2 e3 e4
    refine en_segs [(7, .iload 4, []), (9, .aload_n 0, [])] (by decide +kernel) (y := (10, [some (.ref a0), some (.int x1), some (.int x2), some (.int x3), some (.int x4)], [.ref a0, .int x4], h)) rfl ?_
    refine en_get (by decide +kernel : u_at kl_249 10 = some (.getfield 39, [12, 20])) hW ha0 (by decide) rfl ?_
    refine en_segs [(13, .iconst 0, [])] (by decide +kernel) (y := (14, [some (.ref a0), some (.int x1), some (.int x2), some (.int x3), some (.int x4)], [.int 0, .ref (aP d 12 20 a0), .int x4], h)) rfl ?_
    obtain ⟨v1, hv1, hF⟩ := ob_some hF
    refine en_iald (by decide +kernel : u_at kl_249 14 = some (.iaload, [])) hW ha0 rfl (by decide) hv1 ?_
    refine en_ic_ge (by decide +kernel : u_at kl_249 15 = some (.if_icmp .ge 72, [87])) (fun b2 => ?_) (fun b2 => ?_)
    · replace hF := i_pos b2 hF
      refine en_segs [(87, .aload_n 0, [])] (by decide +kernel) (y := (88, [some (.ref a0), some (.int x1), some (.int x2), some (.int x3), some (.int x4)], [.ref a0], h)) rfl ?_
      refine en_get (by decide +kernel : u_at kl_249 88 = some (.getfield 36, [12, 19])) hW ha0 (by decide) rfl ?_
      refine en_segs [(91, .iconst 0, []), (92, .iload_n 1, []), (93, .i2l, [])] (by decide +kernel) (y := (94, [some (.ref a0), some (.int x1), some (.int x2), some (.int x3), some (.int x4)], [.long ((x1 : Int32).toInt64), .int 0, .ref (aP d 12 19 a0)], h)) rfl ?_
      obtain ⟨c12_3, hc12_3, hF⟩ := ob_some hF
      refine en_last (by decide +kernel : u_at kl_249 94 = some (.lastore, [])) hW ha0 rfl (by decide) hc12_3 (fun h hW => ?_)
      have hW : HW (mkw c0 c1 c2 c3 c4 c5 c6 c7 c8 c9 c10 c11 c12_3 c13) d h := hW
      refine en_segs [(95, .aload_n 0, [])] (by decide +kernel) (y := (96, [some (.ref a0), some (.int x1), some (.int x2), some (.int x3), some (.int x4)], [.ref a0], h)) rfl ?_
      refine en_get (by decide +kernel : u_at kl_249 96 = some (.getfield 36, [12, 19])) hW ha0 (by decide) rfl ?_
      refine en_segs [(99, .iconst 1, []), (100, .aload_n 0, []), (101, .iload_n 1, []), (102, .iconst 1, [])] (by decide +kernel) (y := (103, [some (.ref a0), some (.int x1), some (.int x2), some (.int x3), some (.int x4)], [.int 1, .int x1, .ref a0, .int 1, .ref (aP d 12 19 a0)], h)) rfl ?_
      obtain ⟨r4, hr4, hF⟩ := ob_some hF
      refine en_vi (r := [.int 1, .ref (aP d 12 19 a0)]) (by decide +kernel : u_at kl_249 103 = some (.invokevirtual 343, [223, 2, 12])) hW ha0 rfl rfl (Nat.le_of_ble_eq_true rfl) (e_223 (D := D) (by omega) hW ha0 hr4) (fun h' q => ?_)
      subst q
      refine en_segs [(106, .i2l, [])] (by decide +kernel) (y := (107, [some (.ref a0), some (.int x1), some (.int x2), some (.int x3), some (.int x4)], [.long ((r4 : Int32).toInt64), .int 1, .ref (aP d 12 19 a0)], h)) rfl ?_
      obtain ⟨c12_5, hc12_5, hF⟩ := ob_some hF
      refine en_last (by decide +kernel : u_at kl_249 107 = some (.lastore, [])) hW ha0 rfl (by decide) hc12_5 (fun h hW => ?_)
      have hW : HW (mkw c0 c1 c2 c3 c4 c5 c6 c7 c8 c9 c10 c11 c12_5 c13) d h := hW
      refine en_segs [(108, .aload_n 0, [])] (by decide +kernel) (y := (109, [some (.ref a0), some (.int x1), some (.int x2), some (.int x3), some (.int x4)], [.ref a0], h)) rfl ?_
      refine en_get (by decide +kernel : u_at kl_249 109 = some (.getfield 36, [12, 19])) hW ha0 (by decide) rfl ?_
      refine en_segs [(112, .iconst 2, []), (113, .aload_n 0, []), (114, .iload_n 1, []), (115, .iconst 0, [])] (by decide +kernel) (y := (116, [some (.ref a0), some (.int x1), some (.int x2), some (.int x3), some (.int x4)], [.int 0, .int x1, .ref a0, .int 2, .ref (aP d 12 19 a0)], h)) rfl ?_
      obtain ⟨r6, hr6, hF⟩ := ob_some hF
      refine en_vi (r := [.int 2, .ref (aP d 12 19 a0)]) (by decide +kernel : u_at kl_249 116 = some (.invokevirtual 343, [223, 2, 12])) hW ha0 rfl rfl (Nat.le_of_ble_eq_true rfl) (e_223 (D := D) (by omega) hW ha0 hr6) (fun h' q => ?_)
      subst q
      refine en_segs [(119, .i2l, [])] (by decide +kernel) (y := (120, [some (.ref a0), some (.int x1), some (.int x2), some (.int x3), some (.int x4)], [.long ((r6 : Int32).toInt64), .int 2, .ref (aP d 12 19 a0)], h)) rfl ?_
      obtain ⟨c12_7, hc12_7, hF⟩ := ob_some hF
      refine en_last (by decide +kernel : u_at kl_249 120 = some (.lastore, [])) hW ha0 rfl (by decide) hc12_7 (fun h hW => ?_)
      have hW : HW (mkw c0 c1 c2 c3 c4 c5 c6 c7 c8 c9 c10 c11 c12_7 c13) d h := hW
      refine en_segs [(121, .aload_n 0, [])] (by decide +kernel) (y := (122, [some (.ref a0), some (.int x1), some (.int x2), some (.int x3), some (.int x4)], [.ref a0], h)) rfl ?_
      refine en_get (by decide +kernel : u_at kl_249 122 = some (.getfield 36, [12, 19])) hW ha0 (by decide) rfl ?_
      refine en_segs [(125, .iconst 3, []), (126, .aload_n 0, []), (127, .iload_n 1, []), (128, .iconst 2, [])] (by decide +kernel) (y := (129, [some (.ref a0), some (.int x1), some (.int x2), some (.int x3), some (.int x4)], [.int 2, .int x1, .ref a0, .int 3, .ref (aP d 12 19 a0)], h)) rfl ?_
      obtain ⟨r8, hr8, hF⟩ := ob_some hF
      refine en_vi (r := [.int 3, .ref (aP d 12 19 a0)]) (by decide +kernel : u_at kl_249 129 = some (.invokevirtual 343, [223, 2, 12])) hW ha0 rfl rfl (Nat.le_of_ble_eq_true rfl) (e_223 (D := D) (by omega) hW ha0 hr8) (fun h' q => ?_)
      subst q
      refine en_segs [(132, .i2l, [])] (by decide +kernel) (y := (133, [some (.ref a0), some (.int x1), some (.int x2), some (.int x3), some (.int x4)], [.long ((r8 : Int32).toInt64), .int 3, .ref (aP d 12 19 a0)], h)) rfl ?_
      obtain ⟨c12_9, hc12_9, hF⟩ := ob_some hF
      refine en_last (by decide +kernel : u_at kl_249 133 = some (.lastore, [])) hW ha0 rfl (by decide) hc12_9 (fun h hW => ?_)
      have hW : HW (mkw c0 c1 c2 c3 c4 c5 c6 c7 c8 c9 c10 c11 c12_9 c13) d h := hW
      refine en_segs [(134, .aload_n 0, [])] (by decide +kernel) (y := (135, [some (.ref a0), some (.int x1), some (.int x2), some (.int x3), some (.int x4)], [.ref a0], h)) rfl ?_
      refine en_get (by decide +kernel : u_at kl_249 135 = some (.getfield 36, [12, 19])) hW ha0 (by decide) rfl ?_
      refine en_segs [(138, .iconst 4, []), (139, .aload_n 0, []), (140, .iload_n 1, []), (141, .iconst 3, [])] (by decide +kernel) (y := (142, [some (.ref a0), some (.int x1), some (.int x2), some (.int x3), some (.int x4)], [.int 3, .int x1, .ref a0, .int 4, .ref (aP d 12 19 a0)], h)) rfl ?_
      obtain ⟨r10, hr10, hF⟩ := ob_some hF
      refine en_vi (r := [.int 4, .ref (aP d 12 19 a0)]) (by decide +kernel : u_at kl_249 142 = some (.invokevirtual 343, [223, 2, 12])) hW ha0 rfl rfl (Nat.le_of_ble_eq_true rfl) (e_223 (D := D) (by omega) hW ha0 hr10) (fun h' q => ?_)
      subst q
      obtain ⟨t11, hX, hK⟩ := ob_some hF
      have j12 : ∀ h : UH, HW (mkw c0 c1 c2 c3 c4 c5 c6 c7 c8 c9 c10 c11 c12_9 c13) d h → Ends (EX D) (u_at kl_249) (161, [some (.ref a0), some (.int x1), some (.int x2), some (.int x3), some (.int x4)], [.long t11, .int 4, .ref (aP d 12 19 a0)], h) QQ := by
        intro h hW
        have hF := hK
        obtain ⟨c12_13, hc12_13, hF⟩ := ob_some hF
        refine en_last (by decide +kernel : u_at kl_249 161 = some (.lastore, [])) hW ha0 rfl (by decide) hc12_13 (fun h hW => ?_)
        have hW : HW (mkw c0 c1 c2 c3 c4 c5 c6 c7 c8 c9 c10 c11 c12_13 c13) d h := hW
        refine en_segs [(162, .aload_n 0, [])] (by decide +kernel) (y := (163, [some (.ref a0), some (.int x1), some (.int x2), some (.int x3), some (.int x4)], [.ref a0], h)) rfl ?_
        refine en_get (by decide +kernel : u_at kl_249 163 = some (.getfield 36, [12, 19])) hW ha0 (by decide) rfl ?_
        refine en_segs [(166, .iconst 5, []), (167, .aload_n 0, []), (168, .aload_n 0, []), (169, .iload_n 1, []), (170, .iconst 0, [])] (by decide +kernel) (y := (171, [some (.ref a0), some (.int x1), some (.int x2), some (.int x3), some (.int x4)], [.int 0, .int x1, .ref a0, .ref a0, .int 5, .ref (aP d 12 19 a0)], h)) rfl ?_
        obtain ⟨r14, hr14, hF⟩ := ob_some hF
        refine en_vi (r := [.ref a0, .int 5, .ref (aP d 12 19 a0)]) (by decide +kernel : u_at kl_249 171 = some (.invokevirtual 343, [223, 2, 12])) hW ha0 rfl rfl (Nat.le_of_ble_eq_true rfl) (e_223 (D := D) (by omega) hW ha0 hr14) (fun h' q => ?_)
        subst q
        obtain ⟨r15, hr15, hF⟩ := ob_some hF
        refine en_vi (r := [.int 5, .ref (aP d 12 19 a0)]) (by decide +kernel : u_at kl_249 174 = some (.invokevirtual 364, [230, 1, 12])) hW ha0 rfl rfl (Nat.le_of_ble_eq_true rfl) (e_230 (D := D) (by omega) hW ha0 hr15) (fun h' q => ?_)
        subst q
        refine en_segs [(177, .i2l, [])] (by decide +kernel) (y := (178, [some (.ref a0), some (.int x1), some (.int x2), some (.int x3), some (.int x4)], [.long ((r15 : Int32).toInt64), .int 5, .ref (aP d 12 19 a0)], h)) rfl ?_
        obtain ⟨c12_16, hc12_16, hF⟩ := ob_some hF
        refine en_last (by decide +kernel : u_at kl_249 178 = some (.lastore, [])) hW ha0 rfl (by decide) hc12_16 (fun h hW => ?_)
        have hW : HW (mkw c0 c1 c2 c3 c4 c5 c6 c7 c8 c9 c10 c11 c12_16 c13) d h := hW
        refine en_segs [(179, .aload_n 0, [])] (by decide +kernel) (y := (180, [some (.ref a0), some (.int x1), some (.int x2), some (.int x3), some (.int x4)], [.ref a0], h)) rfl ?_
        refine en_get (by decide +kernel : u_at kl_249 180 = some (.getfield 36, [12, 19])) hW ha0 (by decide) rfl ?_
        refine en_segs [(183, .bipush 6, []), (185, .iload_n 2, [])] (by decide +kernel) (y := (186, [some (.ref a0), some (.int x1), some (.int x2), some (.int x3), some (.int x4)], [.int x2, .int 6, .ref (aP d 12 19 a0)], h)) rfl ?_
        obtain ⟨t17, hX, hK⟩ := ob_some hF
        have j18 : ∀ h : UH, HW (mkw c0 c1 c2 c3 c4 c5 c6 c7 c8 c9 c10 c11 c12_16 c13) d h → Ends (EX D) (u_at kl_249) (197, [some (.ref a0), some (.int x1), some (.int x2), some (.int x3), some (.int x4)], [.long t17, .int 6, .ref (aP d 12 19 a0)], h) QQ := by
          intro h hW
          have hF := hK
          obtain ⟨c12_19, hc12_19, hF⟩ := ob_some hF
          refine en_last (by decide +kernel : u_at kl_249 197 = some (.lastore, [])) hW ha0 rfl (by decide) hc12_19 (fun h hW => ?_)
          have hW : HW (mkw c0 c1 c2 c3 c4 c5 c6 c7 c8 c9 c10 c11 c12_19 c13) d h := hW
          refine en_segs [(198, .aload_n 0, [])] (by decide +kernel) (y := (199, [some (.ref a0), some (.int x1), some (.int x2), some (.int x3), some (.int x4)], [.ref a0], h)) rfl ?_
          refine en_get (by decide +kernel : u_at kl_249 199 = some (.getfield 36, [12, 19])) hW ha0 (by decide) rfl ?_
          refine en_segs [(202, .bipush 7, []), (204, .iload_n 3, [])] (by decide +kernel) (y := (205, [some (.ref a0), some (.int x1), some (.int x2), some (.int x3), some (.int x4)], [.int x3, .int 7, .ref (aP d 12 19 a0)], h)) rfl ?_
          obtain ⟨t20, hX, hK⟩ := ob_some hF
          have j21 : ∀ h : UH, HW (mkw c0 c1 c2 c3 c4 c5 c6 c7 c8 c9 c10 c11 c12_19 c13) d h → Ends (EX D) (u_at kl_249) (216, [some (.ref a0), some (.int x1), some (.int x2), some (.int x3), some (.int x4)], [.long t20, .int 7, .ref (aP d 12 19 a0)], h) QQ := by
            intro h hW
            have hF := hK
            obtain ⟨c12_22, hc12_22, hF⟩ := ob_some hF
            refine en_last (by decide +kernel : u_at kl_249 216 = some (.lastore, [])) hW ha0 rfl (by decide) hc12_22 (fun h hW => ?_)
            have hW : HW (mkw c0 c1 c2 c3 c4 c5 c6 c7 c8 c9 c10 c11 c12_22 c13) d h := hW
            refine en_segs [(217, .aload_n 0, [])] (by decide +kernel) (y := (218, [some (.ref a0), some (.int x1), some (.int x2), some (.int x3), some (.int x4)], [.ref a0], h)) rfl ?_
            refine en_get (by decide +kernel : u_at kl_249 218 = some (.getfield 36, [12, 19])) hW ha0 (by decide) rfl ?_
            refine en_segs [(221, .bipush 8, []), (223, .iload_n 2, [])] (by decide +kernel) (y := (224, [some (.ref a0), some (.int x1), some (.int x2), some (.int x3), some (.int x4)], [.int x2, .int 8, .ref (aP d 12 19 a0)], h)) rfl ?_
            obtain ⟨t23, hX, hK⟩ := ob_some hF
            have j24 : ∀ h : UH, HW (mkw c0 c1 c2 c3 c4 c5 c6 c7 c8 c9 c10 c11 c12_22 c13) d h → Ends (EX D) (u_at kl_249) (237, [some (.ref a0), some (.int x1), some (.int x2), some (.int x3), some (.int x4)], [.long t23, .int 8, .ref (aP d 12 19 a0)], h) QQ := by
              intro h hW
              have hF := hK
              obtain ⟨c12_25, hc12_25, hF⟩ := ob_some hF
              refine en_last (by decide +kernel : u_at kl_249 237 = some (.lastore, [])) hW ha0 rfl (by decide) hc12_25 (fun h hW => ?_)
              have hW : HW (mkw c0 c1 c2 c3 c4 c5 c6 c7 c8 c9 c10 c11 c12_25 c13) d h := hW
              refine en_segs [(238, .aload_n 0, [])] (by decide +kernel) (y := (239, [some (.ref a0), some (.int x1), some (.int x2), some (.int x3), some (.int x4)], [.ref a0], h)) rfl ?_
              refine en_get (by decide +kernel : u_at kl_249 239 = some (.getfield 36, [12, 19])) hW ha0 (by decide) rfl ?_
              refine en_segs [(242, .bipush 9, []), (244, .iload_n 3, [])] (by decide +kernel) (y := (245, [some (.ref a0), some (.int x1), some (.int x2), some (.int x3), some (.int x4)], [.int x3, .int 9, .ref (aP d 12 19 a0)], h)) rfl ?_
              obtain ⟨t26, hX, hK⟩ := ob_some hF
              have j27 : ∀ h : UH, HW (mkw c0 c1 c2 c3 c4 c5 c6 c7 c8 c9 c10 c11 c12_25 c13) d h → Ends (EX D) (u_at kl_249) (258, [some (.ref a0), some (.int x1), some (.int x2), some (.int x3), some (.int x4)], [.long t26, .int 9, .ref (aP d 12 19 a0)], h) QQ := by
                intro h hW
                have hF := hK
                obtain ⟨c12_28, hc12_28, hF⟩ := ob_some hF
                refine en_last (by decide +kernel : u_at kl_249 258 = some (.lastore, [])) hW ha0 rfl (by decide) hc12_28 (fun h hW => ?_)
                have hW : HW (mkw c0 c1 c2 c3 c4 c5 c6 c7 c8 c9 c10 c11 c12_28 c13) d h := hW
                refine en_segs [(259, .aload_n 0, [])] (by decide +kernel) (y := (260, [some (.ref a0), some (.int x1), some (.int x2), some (.int x3), some (.int x4)], [.ref a0], h)) rfl ?_
                refine en_get (by decide +kernel : u_at kl_249 260 = some (.getfield 36, [12, 19])) hW ha0 (by decide) rfl ?_
                refine en_segs [(263, .bipush 10, []), (265, .aload_n 0, []), (266, .iload_n 1, []), (267, .iconst 4, [])] (by decide +kernel) (y := (268, [some (.ref a0), some (.int x1), some (.int x2), some (.int x3), some (.int x4)], [.int 4, .int x1, .ref a0, .int 10, .ref (aP d 12 19 a0)], h)) rfl ?_
                obtain ⟨r29, hr29, hF⟩ := ob_some hF
                refine en_vi (r := [.int 10, .ref (aP d 12 19 a0)]) (by decide +kernel : u_at kl_249 268 = some (.invokevirtual 343, [223, 2, 12])) hW ha0 rfl rfl (Nat.le_of_ble_eq_true rfl) (e_223 (D := D) (by omega) hW ha0 hr29) (fun h' q => ?_)
                subst q
                refine en_segs [(271, .i2l, [])] (by decide +kernel) (y := (272, [some (.ref a0), some (.int x1), some (.int x2), some (.int x3), some (.int x4)], [.long ((r29 : Int32).toInt64), .int 10, .ref (aP d 12 19 a0)], h)) rfl ?_
                obtain ⟨c12_30, hc12_30, hF⟩ := ob_some hF
                refine en_last (by decide +kernel : u_at kl_249 272 = some (.lastore, [])) hW ha0 rfl (by decide) hc12_30 (fun h hW => ?_)
                have hW : HW (mkw c0 c1 c2 c3 c4 c5 c6 c7 c8 c9 c10 c11 c12_30 c13) d h := hW
                refine en_segs [(273, .aload_n 0, [])] (by decide +kernel) (y := (274, [some (.ref a0), some (.int x1), some (.int x2), some (.int x3), some (.int x4)], [.ref a0], h)) rfl ?_
                refine en_get (by decide +kernel : u_at kl_249 274 = some (.getfield 36, [12, 19])) hW ha0 (by decide) rfl ?_
                refine en_segs [(277, .bipush 11, []), (279, .aload_n 0, [])] (by decide +kernel) (y := (280, [some (.ref a0), some (.int x1), some (.int x2), some (.int x3), some (.int x4)], [.ref a0, .int 11, .ref (aP d 12 19 a0)], h)) rfl ?_
                refine en_get (by decide +kernel : u_at kl_249 280 = some (.getfield 39, [12, 20])) hW ha0 (by decide) rfl ?_
                refine en_segs [(283, .iconst 4, [])] (by decide +kernel) (y := (284, [some (.ref a0), some (.int x1), some (.int x2), some (.int x3), some (.int x4)], [.int 4, .ref (aP d 12 20 a0), .int 11, .ref (aP d 12 19 a0)], h)) rfl ?_
                obtain ⟨v31, hv31, hF⟩ := ob_some hF
                refine en_iald (by decide +kernel : u_at kl_249 284 = some (.iaload, [])) hW ha0 rfl (by decide) hv31 ?_
                refine en_segs [(285, .i2l, [])] (by decide +kernel) (y := (286, [some (.ref a0), some (.int x1), some (.int x2), some (.int x3), some (.int x4)], [.long ((v31 : Int32).toInt64), .int 11, .ref (aP d 12 19 a0)], h)) rfl ?_
                obtain ⟨c12_32, hc12_32, hF⟩ := ob_some hF
                refine en_last (by decide +kernel : u_at kl_249 286 = some (.lastore, [])) hW ha0 rfl (by decide) hc12_32 (fun h hW => ?_)
                have hW : HW (mkw c0 c1 c2 c3 c4 c5 c6 c7 c8 c9 c10 c11 c12_32 c13) d h := hW
                obtain rfl := Option.some.inj hF
                exact en_ret (by decide +kernel : u_at kl_249 287 = some (.return_, [])) rfl (hQ _ hW)
              have hF := hX
              refine en_if_ge (by decide +kernel : u_at kl_249 245 = some (.ifCond .ge 7, [252])) (fun b33 => ?_) (fun b33 => ?_)
              · replace hF := i_pos b33 hF
                refine en_segs [(252, .aload_n 0, []), (253, .iload_n 3, [])] (by decide +kernel) (y := (254, [some (.ref a0), some (.int x1), some (.int x2), some (.int x3), some (.int x4)], [.int x3, .ref a0, .int 9, .ref (aP d 12 19 a0)], h)) rfl ?_
                obtain ⟨r34, hr34, hF⟩ := ob_some hF
                refine en_vi (r := [.int 9, .ref (aP d 12 19 a0)]) (by decide +kernel : u_at kl_249 254 = some (.invokevirtual 364, [230, 1, 12])) hW ha0 rfl rfl (Nat.le_of_ble_eq_true rfl) (e_230 (D := D) (by omega) hW ha0 hr34) (fun h' q => ?_)
                subst q
                refine en_segs [(257, .i2l, [])] (by decide +kernel) (y := (258, [some (.ref a0), some (.int x1), some (.int x2), some (.int x3), some (.int x4)], [.long ((r34 : Int32).toInt64), .int 9, .ref (aP d 12 19 a0)], h)) rfl ?_
                obtain rfl := Option.some.inj hF
                exact j27 _ hW
              · replace hF := i_neg b33 hF
                refine en_segs [(248, .lconst 0, []), (249, .goto 9, [258])] (by decide +kernel) (y := (258, [some (.ref a0), some (.int x1), some (.int x2), some (.int x3), some (.int x4)], [.long 0, .int 9, .ref (aP d 12 19 a0)], h)) rfl ?_
                obtain rfl := Option.some.inj hF
                exact j27 _ hW
            have hF := hX
            refine en_if_ge (by decide +kernel : u_at kl_249 224 = some (.ifCond .ge 7, [231])) (fun b35 => ?_) (fun b35 => ?_)
            · replace hF := i_pos b35 hF
              refine en_segs [(231, .aload_n 0, []), (232, .iload_n 2, [])] (by decide +kernel) (y := (233, [some (.ref a0), some (.int x1), some (.int x2), some (.int x3), some (.int x4)], [.int x2, .ref a0, .int 8, .ref (aP d 12 19 a0)], h)) rfl ?_
              obtain ⟨r36, hr36, hF⟩ := ob_some hF
              refine en_vi (r := [.int 8, .ref (aP d 12 19 a0)]) (by decide +kernel : u_at kl_249 233 = some (.invokevirtual 364, [230, 1, 12])) hW ha0 rfl rfl (Nat.le_of_ble_eq_true rfl) (e_230 (D := D) (by omega) hW ha0 hr36) (fun h' q => ?_)
              subst q
              refine en_segs [(236, .i2l, [])] (by decide +kernel) (y := (237, [some (.ref a0), some (.int x1), some (.int x2), some (.int x3), some (.int x4)], [.long ((r36 : Int32).toInt64), .int 8, .ref (aP d 12 19 a0)], h)) rfl ?_
              obtain rfl := Option.some.inj hF
              exact j24 _ hW
            · replace hF := i_neg b35 hF
              refine en_segs [(227, .lconst 0, []), (228, .goto 9, [237])] (by decide +kernel) (y := (237, [some (.ref a0), some (.int x1), some (.int x2), some (.int x3), some (.int x4)], [.long 0, .int 8, .ref (aP d 12 19 a0)], h)) rfl ?_
              obtain rfl := Option.some.inj hF
              exact j24 _ hW
          have hF := hX
          refine en_if_ge (by decide +kernel : u_at kl_249 205 = some (.ifCond .ge 9, [214])) (fun b37 => ?_) (fun b37 => ?_)
          · replace hF := i_pos b37 hF
            refine en_segs [(214, .iload_n 3, []), (215, .i2l, [])] (by decide +kernel) (y := (216, [some (.ref a0), some (.int x1), some (.int x2), some (.int x3), some (.int x4)], [.long ((x3 : Int32).toInt64), .int 7, .ref (aP d 12 19 a0)], h)) rfl ?_
            obtain rfl := Option.some.inj hF
            exact j21 _ hW
          · replace hF := i_neg b37 hF
            refine en_segs [(208, .ldc2_w 412, [99]), (211, .goto 5, [216])] (by decide +kernel) (y := (216, [some (.ref a0), some (.int x1), some (.int x2), some (.int x3), some (.int x4)], [.long 99, .int 7, .ref (aP d 12 19 a0)], h)) rfl ?_
            obtain rfl := Option.some.inj hF
            exact j21 _ hW
        have hF := hX
        refine en_if_ge (by decide +kernel : u_at kl_249 186 = some (.ifCond .ge 9, [195])) (fun b38 => ?_) (fun b38 => ?_)
        · replace hF := i_pos b38 hF
          refine en_segs [(195, .iload_n 2, []), (196, .i2l, [])] (by decide +kernel) (y := (197, [some (.ref a0), some (.int x1), some (.int x2), some (.int x3), some (.int x4)], [.long ((x2 : Int32).toInt64), .int 6, .ref (aP d 12 19 a0)], h)) rfl ?_
          obtain rfl := Option.some.inj hF
          exact j18 _ hW
        · replace hF := i_neg b38 hF
          refine en_segs [(189, .ldc2_w 412, [99]), (192, .goto 5, [197])] (by decide +kernel) (y := (197, [some (.ref a0), some (.int x1), some (.int x2), some (.int x3), some (.int x4)], [.long 99, .int 6, .ref (aP d 12 19 a0)], h)) rfl ?_
          obtain rfl := Option.some.inj hF
          exact j18 _ hW
      have hF := hX
      refine en_if_ge (by decide +kernel : u_at kl_249 145 = some (.ifCond .ge 9, [154])) (fun b39 => ?_) (fun b39 => ?_)
      · replace hF := i_pos b39 hF
        refine en_segs [(154, .aload_n 0, []), (155, .iload_n 1, []), (156, .iconst 3, [])] (by decide +kernel) (y := (157, [some (.ref a0), some (.int x1), some (.int x2), some (.int x3), some (.int x4)], [.int 3, .int x1, .ref a0, .int 4, .ref (aP d 12 19 a0)], h)) rfl ?_
        obtain ⟨r40, hr40, hF⟩ := ob_some hF
        refine en_vi (r := [.int 4, .ref (aP d 12 19 a0)]) (by decide +kernel : u_at kl_249 157 = some (.invokevirtual 343, [223, 2, 12])) hW ha0 rfl rfl (Nat.le_of_ble_eq_true rfl) (e_223 (D := D) (by omega) hW ha0 hr40) (fun h' q => ?_)
        subst q
        refine en_segs [(160, .i2l, [])] (by decide +kernel) (y := (161, [some (.ref a0), some (.int x1), some (.int x2), some (.int x3), some (.int x4)], [.long ((r40 : Int32).toInt64), .int 4, .ref (aP d 12 19 a0)], h)) rfl ?_
        obtain rfl := Option.some.inj hF
        exact j12 _ hW
      · replace hF := i_neg b39 hF
        refine en_segs [(148, .ldc2_w 412, [99]), (151, .goto 10, [161])] (by decide +kernel) (y := (161, [some (.ref a0), some (.int x1), some (.int x2), some (.int x3), some (.int x4)], [.long 99, .int 4, .ref (aP d 12 19 a0)], h)) rfl ?_
        obtain rfl := Option.some.inj hF
        exact j12 _ hW
    · replace hF := i_neg b2 hF
      refine en_segs [(18, .aload_n 0, []), (19, .iload_n 1, []), (20, .iload 4, [])] (by decide +kernel) (y := (22, [some (.ref a0), some (.int x1), some (.int x2), some (.int x3), some (.int x4)], [.int x4, .int x1, .ref a0], h)) rfl ?_
      obtain ⟨r41, hr41, hF⟩ := ob_some hF
      refine en_vi (r := []) (by decide +kernel : u_at kl_249 22 = some (.invokevirtual 394, [241, 2, 12])) hW ha0 rfl rfl (Nat.le_of_ble_eq_true rfl) (e_241 (D := D) (by omega) hW ha0 hr41) (fun h' q => ?_)
      subst q
      refine en_if_ne (by decide +kernel : u_at kl_249 25 = some (.ifCond .ne 6, [31])) (fun b42 => ?_) (fun b42 => ?_)
      · replace hF := i_pos b42 hF
        refine en_segs [(28, .goto 53, [81]), (81, .iinc 4 1, []), (84, .goto (-77), [7])] (by decide +kernel) (y := (7, [some (.ref a0), some (.int x1), some (.int x2), some (.int x3), some (.int (x4 + 1))], [], h)) rfl ?_
        exact (ih _ _ _ _ _ hF) _ _ _ _ rfl rfl rfl rfl  _ hW _ hQ
      · replace hF := i_neg b42 hF
        refine en_segs [(31, .iload_n 2, [])] (by decide +kernel) (y := (32, [some (.ref a0), some (.int x1), some (.int x2), some (.int x3), some (.int x4)], [.int x2], h)) rfl ?_
        obtain ⟨t43, hX, hK⟩ := ob_some hF
        have j44 : ∀ h : UH, HW (mkw c0 c1 c2 c3 c4 c5 c6 c7 c8 c9 c10 c11 c12 c13) d h → Ends (EX D) (u_at kl_249) (55, [some (.ref a0), some (.int x1), some (.int x2), some (.int x3), some (.int x4)], [.int t43], h) QQ := by
          intro h hW
          have hF := hK
          refine en_segs [(55, .istore_n 2, []), (56, .iload_n 3, [])] (by decide +kernel) (y := (57, [some (.ref a0), some (.int x1), some (.int t43), some (.int x3), some (.int x4)], [.int x3], h)) rfl ?_
          obtain ⟨t45, hX, hK⟩ := ob_some hF
          have j46 : ∀ h : UH, HW (mkw c0 c1 c2 c3 c4 c5 c6 c7 c8 c9 c10 c11 c12 c13) d h → Ends (EX D) (u_at kl_249) (80, [some (.ref a0), some (.int x1), some (.int t43), some (.int x3), some (.int x4)], [.int t45], h) QQ := by
            intro h hW
            have hF := hK
            refine en_segs [(80, .istore_n 3, []), (81, .iinc 4 1, []), (84, .goto (-77), [7])] (by decide +kernel) (y := (7, [some (.ref a0), some (.int x1), some (.int t43), some (.int t45), some (.int (x4 + 1))], [], h)) rfl ?_
            exact (ih _ _ _ _ _ hF) _ _ _ _ rfl rfl rfl rfl  _ hW _ hQ
          have hF := hX
          refine en_if_lt (by decide +kernel : u_at kl_249 57 = some (.ifCond .lt 17, [74])) (fun b47 => ?_) (fun b47 => ?_)
          · replace hF := i_pos b47 hF
            refine en_segs [(74, .iload 4, []), (76, .goto 4, [80])] (by decide +kernel) (y := (80, [some (.ref a0), some (.int x1), some (.int t43), some (.int x3), some (.int x4)], [.int x4], h)) rfl ?_
            obtain rfl := Option.some.inj hF
            exact j46 _ hW
          · replace hF := i_neg b47 hF
            refine en_segs [(60, .aload_n 0, []), (61, .iload 4, [])] (by decide +kernel) (y := (63, [some (.ref a0), some (.int x1), some (.int t43), some (.int x3), some (.int x4)], [.int x4, .ref a0], h)) rfl ?_
            obtain ⟨r48, hr48, hF⟩ := ob_some hF
            refine en_vi (r := []) (by decide +kernel : u_at kl_249 63 = some (.invokevirtual 364, [230, 1, 12])) hW ha0 rfl rfl (Nat.le_of_ble_eq_true rfl) (e_230 (D := D) (by omega) hW ha0 hr48) (fun h' q => ?_)
            subst q
            refine en_segs [(66, .aload_n 0, []), (67, .iload_n 3, [])] (by decide +kernel) (y := (68, [some (.ref a0), some (.int x1), some (.int t43), some (.int x3), some (.int x4)], [.int x3, .ref a0, .int r48], h)) rfl ?_
            obtain ⟨r49, hr49, hF⟩ := ob_some hF
            refine en_vi (r := [.int r48]) (by decide +kernel : u_at kl_249 68 = some (.invokevirtual 364, [230, 1, 12])) hW ha0 rfl rfl (Nat.le_of_ble_eq_true rfl) (e_230 (D := D) (by omega) hW ha0 hr49) (fun h' q => ?_)
            subst q
            refine en_ic_le (by decide +kernel : u_at kl_249 71 = some (.if_icmp .le 8, [79])) (fun b50 => ?_) (fun b50 => ?_)
            · replace hF := i_pos b50 hF
              refine en_segs [(79, .iload_n 3, [])] (by decide +kernel) (y := (80, [some (.ref a0), some (.int x1), some (.int t43), some (.int x3), some (.int x4)], [.int x3], h)) rfl ?_
              obtain rfl := Option.some.inj hF
              exact j46 _ hW
            · replace hF := i_neg b50 hF
              refine en_segs [(74, .iload 4, []), (76, .goto 4, [80])] (by decide +kernel) (y := (80, [some (.ref a0), some (.int x1), some (.int t43), some (.int x3), some (.int x4)], [.int x4], h)) rfl ?_
              obtain rfl := Option.some.inj hF
              exact j46 _ hW
        have hF := hX
        refine en_if_lt (by decide +kernel : u_at kl_249 32 = some (.ifCond .lt 17, [49])) (fun b51 => ?_) (fun b51 => ?_)
        · replace hF := i_pos b51 hF
          refine en_segs [(49, .iload 4, []), (51, .goto 4, [55])] (by decide +kernel) (y := (55, [some (.ref a0), some (.int x1), some (.int x2), some (.int x3), some (.int x4)], [.int x4], h)) rfl ?_
          obtain rfl := Option.some.inj hF
          exact j44 _ hW
        · replace hF := i_neg b51 hF
          refine en_segs [(35, .aload_n 0, []), (36, .iload 4, [])] (by decide +kernel) (y := (38, [some (.ref a0), some (.int x1), some (.int x2), some (.int x3), some (.int x4)], [.int x4, .ref a0], h)) rfl ?_
          obtain ⟨r52, hr52, hF⟩ := ob_some hF
          refine en_vi (r := []) (by decide +kernel : u_at kl_249 38 = some (.invokevirtual 364, [230, 1, 12])) hW ha0 rfl rfl (Nat.le_of_ble_eq_true rfl) (e_230 (D := D) (by omega) hW ha0 hr52) (fun h' q => ?_)
          subst q
          refine en_segs [(41, .aload_n 0, []), (42, .iload_n 2, [])] (by decide +kernel) (y := (43, [some (.ref a0), some (.int x1), some (.int x2), some (.int x3), some (.int x4)], [.int x2, .ref a0, .int r52], h)) rfl ?_
          obtain ⟨r53, hr53, hF⟩ := ob_some hF
          refine en_vi (r := [.int r52]) (by decide +kernel : u_at kl_249 43 = some (.invokevirtual 364, [230, 1, 12])) hW ha0 rfl rfl (Nat.le_of_ble_eq_true rfl) (e_230 (D := D) (by omega) hW ha0 hr53) (fun h' q => ?_)
          subst q
          refine en_ic_ge (by decide +kernel : u_at kl_249 46 = some (.if_icmp .ge 8, [54])) (fun b54 => ?_) (fun b54 => ?_)
          · replace hF := i_pos b54 hF
            refine en_segs [(54, .iload_n 2, [])] (by decide +kernel) (y := (55, [some (.ref a0), some (.int x1), some (.int x2), some (.int x3), some (.int x4)], [.int x2], h)) rfl ?_
            obtain rfl := Option.some.inj hF
            exact j44 _ hW
          · replace hF := i_neg b54 hF
            refine en_segs [(49, .iload 4, []), (51, .goto 4, [55])] (by decide +kernel) (y := (55, [some (.ref a0), some (.int x1), some (.int x2), some (.int x3), some (.int x4)], [.int x4], h)) rfl ?_
            obtain rfl := Option.some.inj hF
            exact j44 _ hW
def F_249 (c12 : Cl) (a0 : Nat) (p1 : Int32) : Option Cl :=
  G_249 c12 a0 0 [p1, (-1), (-1), 0] [] []
set_option maxRecDepth 100000 in
set_option maxHeartbeats 4000000 in
/-- HeadCountsModel.words -/
theorem e_249 {D : Nat} {c0 c1 c2 c3 c4 c5 c6 c7 c8 c9 c10 c11 c12 c13 : Cl} {d : Ad} {h : UH} {a0 : Nat} {p1 : Int32} {r : Cl} (hD : 7 ≤ D) (hW : HW (mkw c0 c1 c2 c3 c4 c5 c6 c7 c8 c9 c10 c11 c12 c13) d h) (ha0 : aK d a0 = (0, 12, 0)) (hF : F_249 c12 a0 p1 = some r) : ∃ q, EX D 249 [.ref a0, .int p1] h q ∧ q.1 = none ∧ HW (mkw c0 c1 c2 c3 c4 c5 c6 c7 c8 c9 c10 c11 r c13) d q.2 := by
  obtain ⟨D, rfl⟩ : ∃ E, D = E + 1 := ⟨D - 1, by omega⟩
  unfold F_249 at hF
  refine ex_in (kl := kl_249) (nL := 5) rfl (by decide +kernel) (Nat.le_of_ble_eq_true rfl) ?_
  obtain ⟨QQ, hQQ⟩ : ∃ QQ : UR → Prop, QQ = (fun q : UR => q.1 = none ∧ HW (mkw c0 c1 c2 c3 c4 c5 c6 c7 c8 c9 c10 c11 r c13) d q.2) := ⟨_, rfl⟩
  rw [← hQQ]
  have hQ : ∀ h' : UH, HW (mkw c0 c1 c2 c3 c4 c5 c6 c7 c8 c9 c10 c11 r c13) d h' → QQ (none, h') := fun h' p => by rw [hQQ]; exact ⟨rfl, p⟩
  clear hQQ
  show Ends (EX D) (u_at kl_249) (0, [some (.ref a0), some (.int p1), none, none, none], [], h) QQ
  refine en_segs [(0, .iconst (-1), []), (1, .istore_n 2, []), (2, .iconst (-1), []), (3, .istore_n 3, []), (4, .iconst 0, []), (5, .istore 4, [])] (by decide +kernel) (y := (7, [some (.ref a0), some (.int p1), some (.int (-1)), some (.int (-1)), some (.int 0)], [], h)) rfl ?_
  exact (g_249 (D := D) hD (d := d) ha0 _ _ _ _ _ hF) _ _ _ _ rfl rfl rfl rfl  _ hW _ hQ
def G_250 (a0 : Nat) (lab : Nat) (xs : List Int32) (ys : List Int64) (zs : List Nat) (c12 : Cl) : Option (Int32 × Cl) := match lab, xs, ys, zs with
  | 0, [x1, x2, x3], [], [] =>
    ald (cA c12 6 a0) 6 x1 >>= fun v2 =>
    if v2 ≤ x3 then
    some ((-1), c12)
    else
    ald (cA c12 5 a0) 288 (((48 * x1) + (4 * x3)) + 2) >>= fun v4 =>
    if v4 < 0 then
    G_250 a0 1 [x1, x2, (48 * x1) + (4 * x3)] [] [] c12
    else
    ald (cA c12 5 a0) 288 (((48 * x1) + (4 * x3)) + 2) >>= fun v6 =>
    ald (cA c12 5 a0) 288 (((48 * x1) + (4 * x3)) + 3) >>= fun v7 =>
    F_217 c12 a0 x1 v6 v7 >>= fun r8 =>
    if (lg_cmp r8.1 1) = 0 then
    G_250 a0 1 [x1, x2, (48 * x1) + (4 * x3)] [] [] r8.2
    else
    G_250 a0 0 [x1, x2, x3 + 1] [] [] r8.2
  | 1, [x1, x2, x4], [], [] =>
    ald (cA c12 5 a0) 288 x4 >>= fun v10 =>
    ald (cA c12 5 a0) 288 (x4 + 1) >>= fun v11 =>
    F_217 c12 a0 x1 v10 v11 >>= fun r12 =>
    ald (cA r12.2 20 a0) 221 0 >>= fun v13 =>
    F_170 r12.1 0 (((v13 : Int32).toInt64) - 1) >>= fun r14 =>
    ((if r14 = 0 then
    some (-1)
    else
    F_241 r12.2 a0 x2 ((r12.1 : Int64).toInt32) >>= fun r18 =>
    if r18 = 0 then
    some (-1)
    else
    some ((r12.1 : Int64).toInt32)) : Option (Int32)) >>= fun (t15 : Int32) =>
    some (t15, r12.2)
  | _, _, _, _ => none
partial_fixpoint
set_option maxRecDepth 100000 in
set_option maxHeartbeats 4000000 in
theorem g_250 {D : Nat} (hD : 8 ≤ D + 1) {c0 c1 c2 c3 c4 c5 c6 c7 c8 c9 c10 c11 c13 : Cl} {d : Ad} {a0 : Nat} (ha0 : aK d a0 = (0, 12, 0)) : ∀ (lab : Nat) (xs : List Int32) (ys : List Int64) (zs : List Nat) (c12 : Cl) (r : (Int32 × Cl)), G_250 a0 lab xs ys zs c12 = some r →
    (∀ (x1 : Int32) (x2 : Int32) (x3 : Int32), lab = 0 → xs = [x1, x2, x3] → ys = [] → zs = [] → ∀ h : UH, HW (mkw c0 c1 c2 c3 c4 c5 c6 c7 c8 c9 c10 c11 c12 c13) d h → ∀ QQ : UR → Prop, (∀ h' : UH, HW (mkw c0 c1 c2 c3 c4 c5 c6 c7 c8 c9 c10 c11 r.2 c13) d h' → QQ (some (.int r.1), h')) → Ends (EX D) (u_at kl_250) (7, [some (.ref a0), some (.int x1), some (.int x2), some (.int x3), none, none, none], [], h) QQ) ∧
    (∀ (x1 : Int32) (x2 : Int32) (x4 : Int32), lab = 1 → xs = [x1, x2, x4] → ys = [] → zs = [] → ∀ h : UH, HW (mkw c0 c1 c2 c3 c4 c5 c6 c7 c8 c9 c10 c11 c12 c13) d h → ∀ QQ : UR → Prop, (∀ h' : UH, HW (mkw c0 c1 c2 c3 c4 c5 c6 c7 c8 c9 c10 c11 r.2 c13) d h' → QQ (some (.int r.1), h')) → Ends (EX D) (u_at kl_250) (70, [some (.ref a0), some (.int x1), some (.int x2), none, some (.int x4), none, none], [], h) QQ) := by
  refine G_250.partial_correctness _ (motive := fun lab xs ys zs c12 r =>
    (∀ (x1 : Int32) (x2 : Int32) (x3 : Int32), lab = 0 → xs = [x1, x2, x3] → ys = [] → zs = [] → ∀ h : UH, HW (mkw c0 c1 c2 c3 c4 c5 c6 c7 c8 c9 c10 c11 c12 c13) d h → ∀ QQ : UR → Prop, (∀ h' : UH, HW (mkw c0 c1 c2 c3 c4 c5 c6 c7 c8 c9 c10 c11 r.2 c13) d h' → QQ (some (.int r.1), h')) → Ends (EX D) (u_at kl_250) (7, [some (.ref a0), some (.int x1), some (.int x2), some (.int x3), none, none, none], [], h) QQ) ∧
    (∀ (x1 : Int32) (x2 : Int32) (x4 : Int32), lab = 1 → xs = [x1, x2, x4] → ys = [] → zs = [] → ∀ h : UH, HW (mkw c0 c1 c2 c3 c4 c5 c6 c7 c8 c9 c10 c11 c12 c13) d h → ∀ QQ : UR → Prop, (∀ h' : UH, HW (mkw c0 c1 c2 c3 c4 c5 c6 c7 c8 c9 c10 c11 r.2 c13) d h' → QQ (some (.int r.1), h')) → Ends (EX D) (u_at kl_250) (70, [some (.ref a0), some (.int x1), some (.int x2), none, some (.int x4), none, none], [], h) QQ)) ?_
  intro G ih lab xs ys zs c12 r hF
  refine ⟨?_, ?_⟩
  · intro x1 x2 x3 e1 e2 e3 e4 h hW QQ hQ
    subst e1 e2 e3 e4
    refine en_segs [(7, .iload_n 3, []), (8, .aload_n 0, [])] (by decide +kernel) (y := (9, [some (.ref a0), some (.int x1), some (.int x2), some (.int x3), none, none, none], [.ref a0, .int x3], h)) rfl ?_
    refine en_get (by decide +kernel : u_at kl_250 9 = some (.getfield 23, [12, 6])) hW ha0 (by decide) rfl ?_
    refine en_segs [(12, .iload_n 1, [])] (by decide +kernel) (y := (13, [some (.ref a0), some (.int x1), some (.int x2), some (.int x3), none, none, none], [.int x1, .ref (aP d 12 6 a0), .int x3], h)) rfl ?_
    obtain ⟨v2, hv2, hF⟩ := ob_some hF
    refine en_iald (by decide +kernel : u_at kl_250 13 = some (.iaload, [])) hW ha0 rfl (by decide) hv2 ?_
    refine en_ic_ge (by decide +kernel : u_at kl_250 14 = some (.if_icmp .ge 122, [136])) (fun b3 => ?_) (fun b3 => ?_)
    · replace hF := i_pos b3 hF
      refine en_segs [(136, .iconst (-1), [])] (by decide +kernel) (y := (137, [some (.ref a0), some (.int x1), some (.int x2), some (.int x3), none, none, none], [.int (-1)], h)) rfl ?_
      obtain rfl := Option.some.inj hF
      exact en_ret (by decide +kernel : u_at kl_250 137 = some (.ireturn, [0])) rfl (hQ _ hW)
    · replace hF := i_neg b3 hF
      refine en_segs [(17, .bipush 48, []), (19, .iload_n 1, []), (20, .imul, []), (21, .iconst 4, []), (22, .iload_n 3, []), (23, .imul, []), (24, .iadd, []), (25, .istore 4, []), (27, .aload_n 0, [])] (by decide +kernel) (y := (28, [some (.ref a0), some (.int x1), some (.int x2), some (.int x3), some (.int ((48 * x1) + (4 * x3))), none, none], [.ref a0], h)) rfl ?_
      refine en_get (by decide +kernel : u_at kl_250 28 = some (.getfield 20, [12, 5])) hW ha0 (by decide) rfl ?_
      refine en_segs [(31, .iload 4, []), (33, .iconst 2, []), (34, .iadd, [])] (by decide +kernel) (y := (35, [some (.ref a0), some (.int x1), some (.int x2), some (.int x3), some (.int ((48 * x1) + (4 * x3))), none, none], [.int (((48 * x1) + (4 * x3)) + 2), .ref (aP d 12 5 a0)], h)) rfl ?_
      obtain ⟨v4, hv4, hF⟩ := ob_some hF
      refine en_iald (by decide +kernel : u_at kl_250 35 = some (.iaload, [])) hW ha0 rfl (by decide) hv4 ?_
      refine en_if_lt (by decide +kernel : u_at kl_250 36 = some (.ifCond .lt 34, [70])) (fun b5 => ?_) (fun b5 => ?_)
      · replace hF := i_pos b5 hF
        refine en_fg (fg_k (fg_k (fg_k (fg_d (fg_k (fg_k (fg_k fg_0))))))) ?_
        exact (ih _ _ _ _ _ _ hF).2 _ _ _ rfl rfl rfl rfl  _ hW _ hQ
      · replace hF := i_neg b5 hF
        refine en_segs [(39, .aload_n 0, []), (40, .iload_n 1, []), (41, .aload_n 0, [])] (by decide +kernel) (y := (42, [some (.ref a0), some (.int x1), some (.int x2), some (.int x3), some (.int ((48 * x1) + (4 * x3))), none, none], [.ref a0, .int x1, .ref a0], h)) rfl ?_
        refine en_get (by decide +kernel : u_at kl_250 42 = some (.getfield 20, [12, 5])) hW ha0 (by decide) rfl ?_
        refine en_segs [(45, .iload 4, []), (47, .iconst 2, []), (48, .iadd, [])] (by decide +kernel) (y := (49, [some (.ref a0), some (.int x1), some (.int x2), some (.int x3), some (.int ((48 * x1) + (4 * x3))), none, none], [.int (((48 * x1) + (4 * x3)) + 2), .ref (aP d 12 5 a0), .int x1, .ref a0], h)) rfl ?_
        obtain ⟨v6, hv6, hF⟩ := ob_some hF
        refine en_iald (by decide +kernel : u_at kl_250 49 = some (.iaload, [])) hW ha0 rfl (by decide) hv6 ?_
        refine en_segs [(50, .aload_n 0, [])] (by decide +kernel) (y := (51, [some (.ref a0), some (.int x1), some (.int x2), some (.int x3), some (.int ((48 * x1) + (4 * x3))), none, none], [.ref a0, .int v6, .int x1, .ref a0], h)) rfl ?_
        refine en_get (by decide +kernel : u_at kl_250 51 = some (.getfield 20, [12, 5])) hW ha0 (by decide) rfl ?_
        refine en_segs [(54, .iload 4, []), (56, .iconst 3, []), (57, .iadd, [])] (by decide +kernel) (y := (58, [some (.ref a0), some (.int x1), some (.int x2), some (.int x3), some (.int ((48 * x1) + (4 * x3))), none, none], [.int (((48 * x1) + (4 * x3)) + 3), .ref (aP d 12 5 a0), .int v6, .int x1, .ref a0], h)) rfl ?_
        obtain ⟨v7, hv7, hF⟩ := ob_some hF
        refine en_iald (by decide +kernel : u_at kl_250 58 = some (.iaload, [])) hW ha0 rfl (by decide) hv7 ?_
        obtain ⟨r8, hr8, hF⟩ := ob_some hF
        refine en_vl (r := []) (by decide +kernel : u_at kl_250 59 = some (.invokevirtual 417, [217, 3, 12])) hW ha0 rfl rfl (Nat.le_of_ble_eq_true rfl) (e_217 (D := D) (by omega) hW ha0 hr8) (fun h hW => ?_)
        have hW : HW (mkw c0 c1 c2 c3 c4 c5 c6 c7 c8 c9 c10 c11 r8.2 c13) d h := hW
        refine en_segs [(62, .lconst 1, []), (63, .lcmp, [])] (by decide +kernel) (y := (64, [some (.ref a0), some (.int x1), some (.int x2), some (.int x3), some (.int ((48 * x1) + (4 * x3))), none, none], [.int (lg_cmp r8.1 1)], h)) rfl ?_
        refine en_if_eq (by decide +kernel : u_at kl_250 64 = some (.ifCond .eq 6, [70])) (fun b9 => ?_) (fun b9 => ?_)
        · replace hF := i_pos b9 hF
          refine en_fg (fg_k (fg_k (fg_k (fg_d (fg_k (fg_k (fg_k fg_0))))))) ?_
          exact (ih _ _ _ _ _ _ hF).2 _ _ _ rfl rfl rfl rfl  _ hW _ hQ
        · replace hF := i_neg b9 hF
          refine en_segs [(67, .goto 63, [130]), (130, .iinc 3 1, []), (133, .goto (-126), [7])] (by decide +kernel) (y := (7, [some (.ref a0), some (.int x1), some (.int x2), some (.int (x3 + 1)), some (.int ((48 * x1) + (4 * x3))), none, none], [], h)) rfl ?_
          refine en_fg (fg_k (fg_k (fg_k (fg_k (fg_d (fg_k (fg_k fg_0))))))) ?_
          exact (ih _ _ _ _ _ _ hF).1 _ _ _ rfl rfl rfl rfl  _ hW _ hQ
  · intro x1 x2 x4 e1 e2 e3 e4 h hW QQ hQ
    subst e1 e2 e3 e4
    refine en_segs [(70, .aload_n 0, []), (71, .iload_n 1, []), (72, .aload_n 0, [])] (by decide +kernel) (y := (73, [some (.ref a0), some (.int x1), some (.int x2), none, some (.int x4), none, none], [.ref a0, .int x1, .ref a0], h)) rfl ?_
    refine en_get (by decide +kernel : u_at kl_250 73 = some (.getfield 20, [12, 5])) hW ha0 (by decide) rfl ?_
    refine en_segs [(76, .iload 4, [])] (by decide +kernel) (y := (78, [some (.ref a0), some (.int x1), some (.int x2), none, some (.int x4), none, none], [.int x4, .ref (aP d 12 5 a0), .int x1, .ref a0], h)) rfl ?_
    obtain ⟨v10, hv10, hF⟩ := ob_some hF
    refine en_iald (by decide +kernel : u_at kl_250 78 = some (.iaload, [])) hW ha0 rfl (by decide) hv10 ?_
    refine en_segs [(79, .aload_n 0, [])] (by decide +kernel) (y := (80, [some (.ref a0), some (.int x1), some (.int x2), none, some (.int x4), none, none], [.ref a0, .int v10, .int x1, .ref a0], h)) rfl ?_
    refine en_get (by decide +kernel : u_at kl_250 80 = some (.getfield 20, [12, 5])) hW ha0 (by decide) rfl ?_
    refine en_segs [(83, .iload 4, []), (85, .iconst 1, []), (86, .iadd, [])] (by decide +kernel) (y := (87, [some (.ref a0), some (.int x1), some (.int x2), none, some (.int x4), none, none], [.int (x4 + 1), .ref (aP d 12 5 a0), .int v10, .int x1, .ref a0], h)) rfl ?_
    obtain ⟨v11, hv11, hF⟩ := ob_some hF
    refine en_iald (by decide +kernel : u_at kl_250 87 = some (.iaload, [])) hW ha0 rfl (by decide) hv11 ?_
    obtain ⟨r12, hr12, hF⟩ := ob_some hF
    refine en_vl (r := []) (by decide +kernel : u_at kl_250 88 = some (.invokevirtual 417, [217, 3, 12])) hW ha0 rfl rfl (Nat.le_of_ble_eq_true rfl) (e_217 (D := D) (by omega) hW ha0 hr12) (fun h hW => ?_)
    have hW : HW (mkw c0 c1 c2 c3 c4 c5 c6 c7 c8 c9 c10 c11 r12.2 c13) d h := hW
    refine en_segs [(91, .lstore 5, []), (93, .lload 5, []), (95, .lconst 0, []), (96, .aload_n 0, [])] (by decide +kernel) (y := (97, [some (.ref a0), some (.int x1), some (.int x2), none, some (.int x4), some (.long r12.1), none], [.ref a0, .long 0, .long r12.1], h)) rfl ?_
    refine en_get (by decide +kernel : u_at kl_250 97 = some (.getfield 39, [12, 20])) hW ha0 (by decide) rfl ?_
    refine en_segs [(100, .iconst 0, [])] (by decide +kernel) (y := (101, [some (.ref a0), some (.int x1), some (.int x2), none, some (.int x4), some (.long r12.1), none], [.int 0, .ref (aP d 12 20 a0), .long 0, .long r12.1], h)) rfl ?_
    obtain ⟨v13, hv13, hF⟩ := ob_some hF
    refine en_iald (by decide +kernel : u_at kl_250 101 = some (.iaload, [])) hW ha0 rfl (by decide) hv13 ?_
    refine en_segs [(102, .i2l, []), (103, .lconst 1, []), (104, .lsub, [])] (by decide +kernel) (y := (105, [some (.ref a0), some (.int x1), some (.int x2), none, some (.int x4), some (.long r12.1), none], [.long (((v13 : Int32).toInt64) - 1), .long 0, .long r12.1], h)) rfl ?_
    obtain ⟨r14, hr14, hF⟩ := ob_some hF
    refine en_si (r := []) (by decide +kernel : u_at kl_250 105 = some (.invokestatic 161, [170, 3])) rfl rfl (Nat.le_of_ble_eq_true rfl) (e_170 (D := D) (by omega) hW hr14) (fun h' q => ?_)
    subst q
    obtain ⟨t15, hX, hK⟩ := ob_some hF
    have j16 : ∀ h : UH, HW (mkw c0 c1 c2 c3 c4 c5 c6 c7 c8 c9 c10 c11 r12.2 c13) d h → Ends (EX D) (u_at kl_250) (129, [some (.ref a0), some (.int x1), some (.int x2), none, some (.int x4), some (.long r12.1), none], [.int t15], h) QQ := by
      intro h hW
      have hF := hK
      obtain rfl := Option.some.inj hF
      exact en_ret (by decide +kernel : u_at kl_250 129 = some (.ireturn, [0])) rfl (hQ _ hW)
    have hF := hX
    refine en_if_eq (by decide +kernel : u_at kl_250 108 = some (.ifCond .eq 20, [128])) (fun b17 => ?_) (fun b17 => ?_)
    · replace hF := i_pos b17 hF
      refine en_segs [(128, .iconst (-1), [])] (by decide +kernel) (y := (129, [some (.ref a0), some (.int x1), some (.int x2), none, some (.int x4), some (.long r12.1), none], [.int (-1)], h)) rfl ?_
      obtain rfl := Option.some.inj hF
      exact j16 _ hW
    · replace hF := i_neg b17 hF
      refine en_segs [(111, .aload_n 0, []), (112, .iload_n 2, []), (113, .lload 5, []), (115, .l2i, [])] (by decide +kernel) (y := (116, [some (.ref a0), some (.int x1), some (.int x2), none, some (.int x4), some (.long r12.1), none], [.int ((r12.1 : Int64).toInt32), .int x2, .ref a0], h)) rfl ?_
      obtain ⟨r18, hr18, hF⟩ := ob_some hF
      refine en_vi (r := []) (by decide +kernel : u_at kl_250 116 = some (.invokevirtual 394, [241, 2, 12])) hW ha0 rfl rfl (Nat.le_of_ble_eq_true rfl) (e_241 (D := D) (by omega) hW ha0 hr18) (fun h' q => ?_)
      subst q
      refine en_if_eq (by decide +kernel : u_at kl_250 119 = some (.ifCond .eq 9, [128])) (fun b19 => ?_) (fun b19 => ?_)
      · replace hF := i_pos b19 hF
        refine en_segs [(128, .iconst (-1), [])] (by decide +kernel) (y := (129, [some (.ref a0), some (.int x1), some (.int x2), none, some (.int x4), some (.long r12.1), none], [.int (-1)], h)) rfl ?_
        obtain rfl := Option.some.inj hF
        exact j16 _ hW
      · replace hF := i_neg b19 hF
        refine en_segs [(122, .lload 5, []), (124, .l2i, []), (125, .goto 4, [129])] (by decide +kernel) (y := (129, [some (.ref a0), some (.int x1), some (.int x2), none, some (.int x4), some (.long r12.1), none], [.int ((r12.1 : Int64).toInt32)], h)) rfl ?_
        obtain rfl := Option.some.inj hF
        exact j16 _ hW
def F_250 (c12 : Cl) (a0 : Nat) (p1 : Int32) (p2 : Int32) : Option (Int32 × Cl) :=
  F_249 c12 a0 p2 >>= fun r1 =>
  G_250 a0 0 [p1, p2, 0] [] [] r1
set_option maxRecDepth 100000 in
set_option maxHeartbeats 4000000 in
/-- HeadCountsModel.wouldBy -/
theorem e_250 {D : Nat} {c0 c1 c2 c3 c4 c5 c6 c7 c8 c9 c10 c11 c12 c13 : Cl} {d : Ad} {h : UH} {a0 : Nat} {p1 : Int32} {p2 : Int32} {r : (Int32 × Cl)} (hD : 8 ≤ D) (hW : HW (mkw c0 c1 c2 c3 c4 c5 c6 c7 c8 c9 c10 c11 c12 c13) d h) (ha0 : aK d a0 = (0, 12, 0)) (hF : F_250 c12 a0 p1 p2 = some r) : ∃ q, EX D 250 [.ref a0, .int p1, .int p2] h q ∧ q.1 = some (.int r.1) ∧ HW (mkw c0 c1 c2 c3 c4 c5 c6 c7 c8 c9 c10 c11 r.2 c13) d q.2 := by
  obtain ⟨D, rfl⟩ : ∃ E, D = E + 1 := ⟨D - 1, by omega⟩
  unfold F_250 at hF
  refine ex_in (kl := kl_250) (nL := 7) rfl (by decide +kernel) (Nat.le_of_ble_eq_true rfl) ?_
  obtain ⟨QQ, hQQ⟩ : ∃ QQ : UR → Prop, QQ = (fun q : UR => q.1 = some (.int r.1) ∧ HW (mkw c0 c1 c2 c3 c4 c5 c6 c7 c8 c9 c10 c11 r.2 c13) d q.2) := ⟨_, rfl⟩
  rw [← hQQ]
  have hQ : ∀ h' : UH, HW (mkw c0 c1 c2 c3 c4 c5 c6 c7 c8 c9 c10 c11 r.2 c13) d h' → QQ (some (.int r.1), h') := fun h' p => by rw [hQQ]; exact ⟨rfl, p⟩
  clear hQQ
  show Ends (EX D) (u_at kl_250) (0, [some (.ref a0), some (.int p1), some (.int p2), none, none, none, none], [], h) QQ
  refine en_segs [(0, .aload_n 0, []), (1, .iload_n 2, [])] (by decide +kernel) (y := (2, [some (.ref a0), some (.int p1), some (.int p2), none, none, none, none], [.int p2, .ref a0], h)) rfl ?_
  obtain ⟨r1, hr1, hF⟩ := ob_some hF
  refine en_vv (r := []) (by decide +kernel : u_at kl_250 2 = some (.invokevirtual 414, [249, 1, 12])) hW ha0 rfl rfl (Nat.le_of_ble_eq_true rfl) (e_249 (D := D) (by omega) hW ha0 hr1) (fun h hW => ?_)
  have hW : HW (mkw c0 c1 c2 c3 c4 c5 c6 c7 c8 c9 c10 c11 r1 c13) d h := hW
  refine en_segs [(5, .iconst 0, []), (6, .istore_n 3, [])] (by decide +kernel) (y := (7, [some (.ref a0), some (.int p1), some (.int p2), some (.int 0), none, none, none], [], h)) rfl ?_
  exact (g_250 (D := D) hD (d := d) ha0 _ _ _ _ _ _ hF).1 _ _ _ rfl rfl rfl rfl  _ hW _ hQ
def F_251 (c12 : Cl) (a0 : Nat) (p1 : Int32) (p2 : Int32) : Option (Int32 × Cl) :=
  F_213 c12 a0 p1 >>= fun r1 =>
  if r1 = 0 then
  some ((-1), c12)
  else
  F_221 c12 a0 p2 >>= fun r3 =>
  if r3 = 0 then
  some ((-1), c12)
  else
  F_224 c12 a0 p2 >>= fun r5 =>
  if r5 = 0 then
  some ((-1), c12)
  else
  F_250 c12 a0 p1 p2 >>= fun r7 =>
  ((if 0 ≤ r7.1 then
  some r7.1
  else
  some (-2)) : Option (Int32)) >>= fun (t8 : Int32) =>
  some (t8, r7.2)
set_option maxRecDepth 100000 in
set_option maxHeartbeats 4000000 in
/-- HeadCountsModel.would -/
theorem e_251 {D : Nat} {c0 c1 c2 c3 c4 c5 c6 c7 c8 c9 c10 c11 c12 c13 : Cl} {d : Ad} {h : UH} {a0 : Nat} {p1 : Int32} {p2 : Int32} {r : (Int32 × Cl)} (hD : 9 ≤ D) (hW : HW (mkw c0 c1 c2 c3 c4 c5 c6 c7 c8 c9 c10 c11 c12 c13) d h) (ha0 : aK d a0 = (0, 12, 0)) (hF : F_251 c12 a0 p1 p2 = some r) : ∃ q, EX D 251 [.ref a0, .int p1, .int p2] h q ∧ q.1 = some (.int r.1) ∧ HW (mkw c0 c1 c2 c3 c4 c5 c6 c7 c8 c9 c10 c11 r.2 c13) d q.2 := by
  obtain ⟨D, rfl⟩ : ∃ E, D = E + 1 := ⟨D - 1, by omega⟩
  unfold F_251 at hF
  refine ex_in (kl := kl_251) (nL := 4) rfl (by decide +kernel) (Nat.le_of_ble_eq_true rfl) ?_
  obtain ⟨QQ, hQQ⟩ : ∃ QQ : UR → Prop, QQ = (fun q : UR => q.1 = some (.int r.1) ∧ HW (mkw c0 c1 c2 c3 c4 c5 c6 c7 c8 c9 c10 c11 r.2 c13) d q.2) := ⟨_, rfl⟩
  rw [← hQQ]
  have hQ : ∀ h' : UH, HW (mkw c0 c1 c2 c3 c4 c5 c6 c7 c8 c9 c10 c11 r.2 c13) d h' → QQ (some (.int r.1), h') := fun h' p => by rw [hQQ]; exact ⟨rfl, p⟩
  clear hQQ
  show Ends (EX D) (u_at kl_251) (0, [some (.ref a0), some (.int p1), some (.int p2), none], [], h) QQ
  refine en_segs [(0, .aload_n 0, []), (1, .iload_n 1, [])] (by decide +kernel) (y := (2, [some (.ref a0), some (.int p1), some (.int p2), none], [.int p1, .ref a0], h)) rfl ?_
  obtain ⟨r1, hr1, hF⟩ := ob_some hF
  refine en_vi (r := []) (by decide +kernel : u_at kl_251 2 = some (.invokevirtual 421, [213, 1, 12])) hW ha0 rfl rfl (Nat.le_of_ble_eq_true rfl) (e_213 (D := D) (by omega) hW ha0 hr1) (fun h' q => ?_)
  subst q
  refine en_if_eq (by decide +kernel : u_at kl_251 5 = some (.ifCond .eq 19, [24])) (fun b2 => ?_) (fun b2 => ?_)
  · replace hF := i_pos b2 hF
    refine en_segs [(24, .iconst (-1), [])] (by decide +kernel) (y := (25, [some (.ref a0), some (.int p1), some (.int p2), none], [.int (-1)], h)) rfl ?_
    obtain rfl := Option.some.inj hF
    exact en_ret (by decide +kernel : u_at kl_251 25 = some (.ireturn, [0])) rfl (hQ _ hW)
  · replace hF := i_neg b2 hF
    refine en_segs [(8, .aload_n 0, []), (9, .iload_n 2, [])] (by decide +kernel) (y := (10, [some (.ref a0), some (.int p1), some (.int p2), none], [.int p2, .ref a0], h)) rfl ?_
    obtain ⟨r3, hr3, hF⟩ := ob_some hF
    refine en_vi (r := []) (by decide +kernel : u_at kl_251 10 = some (.invokevirtual 367, [221, 1, 12])) hW ha0 rfl rfl (Nat.le_of_ble_eq_true rfl) (e_221 (D := D) (by omega) hW ha0 hr3) (fun h' q => ?_)
    subst q
    refine en_if_eq (by decide +kernel : u_at kl_251 13 = some (.ifCond .eq 11, [24])) (fun b4 => ?_) (fun b4 => ?_)
    · replace hF := i_pos b4 hF
      refine en_segs [(24, .iconst (-1), [])] (by decide +kernel) (y := (25, [some (.ref a0), some (.int p1), some (.int p2), none], [.int (-1)], h)) rfl ?_
      obtain rfl := Option.some.inj hF
      exact en_ret (by decide +kernel : u_at kl_251 25 = some (.ireturn, [0])) rfl (hQ _ hW)
    · replace hF := i_neg b4 hF
      refine en_segs [(16, .aload_n 0, []), (17, .iload_n 2, [])] (by decide +kernel) (y := (18, [some (.ref a0), some (.int p1), some (.int p2), none], [.int p2, .ref a0], h)) rfl ?_
      obtain ⟨r5, hr5, hF⟩ := ob_some hF
      refine en_vi (r := []) (by decide +kernel : u_at kl_251 18 = some (.invokevirtual 346, [224, 1, 12])) hW ha0 rfl rfl (Nat.le_of_ble_eq_true rfl) (e_224 (D := D) (by omega) hW ha0 hr5) (fun h' q => ?_)
      subst q
      refine en_if_ne (by decide +kernel : u_at kl_251 21 = some (.ifCond .ne 5, [26])) (fun b6 => ?_) (fun b6 => ?_)
      · replace hF := i_pos b6 hF
        refine en_segs [(24, .iconst (-1), [])] (by decide +kernel) (y := (25, [some (.ref a0), some (.int p1), some (.int p2), none], [.int (-1)], h)) rfl ?_
        obtain rfl := Option.some.inj hF
        exact en_ret (by decide +kernel : u_at kl_251 25 = some (.ireturn, [0])) rfl (hQ _ hW)
      · replace hF := i_neg b6 hF
        refine en_segs [(26, .aload_n 0, []), (27, .iload_n 1, []), (28, .iload_n 2, [])] (by decide +kernel) (y := (29, [some (.ref a0), some (.int p1), some (.int p2), none], [.int p2, .int p1, .ref a0], h)) rfl ?_
        obtain ⟨r7, hr7, hF⟩ := ob_some hF
        refine en_vi (r := []) (by decide +kernel : u_at kl_251 29 = some (.invokevirtual 424, [250, 2, 12])) hW ha0 rfl rfl (Nat.le_of_ble_eq_true rfl) (e_250 (D := D) (by omega) hW ha0 hr7) (fun h hW => ?_)
        have hW : HW (mkw c0 c1 c2 c3 c4 c5 c6 c7 c8 c9 c10 c11 r7.2 c13) d h := hW
        refine en_segs [(32, .istore_n 3, []), (33, .iload_n 3, [])] (by decide +kernel) (y := (34, [some (.ref a0), some (.int p1), some (.int p2), some (.int r7.1)], [.int r7.1], h)) rfl ?_
        obtain ⟨t8, hX, hK⟩ := ob_some hF
        have j9 : ∀ h : UH, HW (mkw c0 c1 c2 c3 c4 c5 c6 c7 c8 c9 c10 c11 r7.2 c13) d h → Ends (EX D) (u_at kl_251) (43, [some (.ref a0), some (.int p1), some (.int p2), some (.int r7.1)], [.int t8], h) QQ := by
          intro h hW
          have hF := hK
          obtain rfl := Option.some.inj hF
          exact en_ret (by decide +kernel : u_at kl_251 43 = some (.ireturn, [0])) rfl (hQ _ hW)
        have hF := hX
        refine en_if_ge (by decide +kernel : u_at kl_251 34 = some (.ifCond .ge 8, [42])) (fun b10 => ?_) (fun b10 => ?_)
        · replace hF := i_pos b10 hF
          refine en_segs [(42, .iload_n 3, [])] (by decide +kernel) (y := (43, [some (.ref a0), some (.int p1), some (.int p2), some (.int r7.1)], [.int r7.1], h)) rfl ?_
          obtain rfl := Option.some.inj hF
          exact j9 _ hW
        · replace hF := i_neg b10 hF
          refine en_segs [(37, .bipush (-2), []), (39, .goto 4, [43])] (by decide +kernel) (y := (43, [some (.ref a0), some (.int p1), some (.int p2), some (.int r7.1)], [.int (-2)], h)) rfl ?_
          obtain rfl := Option.some.inj hF
          exact j9 _ hW
def G_252 (a0 : Nat) (lab : Nat) (xs : List Int32) (ys : List Int64) (zs : List Nat) (c12 : Cl) : Option Cl := match lab, xs, ys, zs with
  | 0, [x1, x2, x3], [], [] =>
    ald (cA c12 20 a0) 221 2 >>= fun v1 =>
    if v1 ≤ x3 then
    G_252 a0 1 [] [] [] c12
    else
    if x2 = 0 then
    F_224 c12 a0 x3 >>= fun r4 =>
    ((if r4 = 0 then
    some ((-1), c12)
    else
    F_250 c12 a0 x1 x3 >>= fun r12 =>
    some (r12.1, r12.2)) : Option (Int32 × Cl)) >>= fun (t5 : Int32 × Cl) =>
    ((if 0 ≤ t5.1 then
    F_244 t5.2 a0 x3 t5.1 >>= fun r10 =>
    some (1, r10)
    else
    some (x2, t5.2)) : Option (Int32 × Cl)) >>= fun (t7 : Int32 × Cl) =>
    G_252 a0 0 [x1, t7.1, x3 + 1] [] [] t7.2
    else
    G_252 a0 1 [] [] [] c12
  | 1, [], [], [] =>
    F_242 c12 a0 >>= fun r13 =>
    F_227 r13 a0 >>= fun r14 =>
    some r14
  | _, _, _, _ => none
partial_fixpoint
set_option maxRecDepth 100000 in
set_option maxHeartbeats 4000000 in
theorem g_252 {D : Nat} (hD : 9 ≤ D + 1) {c0 c1 c2 c3 c4 c5 c6 c7 c8 c9 c10 c11 c13 : Cl} {d : Ad} {a0 : Nat} (ha0 : aK d a0 = (0, 12, 0)) : ∀ (lab : Nat) (xs : List Int32) (ys : List Int64) (zs : List Nat) (c12 : Cl) (r : Cl), G_252 a0 lab xs ys zs c12 = some r →
    (∀ (x1 : Int32) (x2 : Int32) (x3 : Int32), lab = 0 → xs = [x1, x2, x3] → ys = [] → zs = [] → ∀ h : UH, HW (mkw c0 c1 c2 c3 c4 c5 c6 c7 c8 c9 c10 c11 c12 c13) d h → ∀ QQ : UR → Prop, (∀ h' : UH, HW (mkw c0 c1 c2 c3 c4 c5 c6 c7 c8 c9 c10 c11 r c13) d h' → QQ (none, h')) → Ends (EX D) (u_at kl_252) (4, [some (.ref a0), some (.int x1), some (.int x2), some (.int x3), none], [], h) QQ) ∧
    (∀ (_ : Unit), lab = 1 → xs = [] → ys = [] → zs = [] → ∀ h : UH, HW (mkw c0 c1 c2 c3 c4 c5 c6 c7 c8 c9 c10 c11 c12 c13) d h → ∀ QQ : UR → Prop, (∀ h' : UH, HW (mkw c0 c1 c2 c3 c4 c5 c6 c7 c8 c9 c10 c11 r c13) d h' → QQ (none, h')) → Ends (EX D) (u_at kl_252) (61, [some (.ref a0), none, none, none, none], [], h) QQ) := by
  refine G_252.partial_correctness _ (motive := fun lab xs ys zs c12 r =>
    (∀ (x1 : Int32) (x2 : Int32) (x3 : Int32), lab = 0 → xs = [x1, x2, x3] → ys = [] → zs = [] → ∀ h : UH, HW (mkw c0 c1 c2 c3 c4 c5 c6 c7 c8 c9 c10 c11 c12 c13) d h → ∀ QQ : UR → Prop, (∀ h' : UH, HW (mkw c0 c1 c2 c3 c4 c5 c6 c7 c8 c9 c10 c11 r c13) d h' → QQ (none, h')) → Ends (EX D) (u_at kl_252) (4, [some (.ref a0), some (.int x1), some (.int x2), some (.int x3), none], [], h) QQ) ∧
    (∀ (_ : Unit), lab = 1 → xs = [] → ys = [] → zs = [] → ∀ h : UH, HW (mkw c0 c1 c2 c3 c4 c5 c6 c7 c8 c9 c10 c11 c12 c13) d h → ∀ QQ : UR → Prop, (∀ h' : UH, HW (mkw c0 c1 c2 c3 c4 c5 c6 c7 c8 c9 c10 c11 r c13) d h' → QQ (none, h')) → Ends (EX D) (u_at kl_252) (61, [some (.ref a0), none, none, none, none], [], h) QQ)) ?_
  intro G ih lab xs ys zs c12 r hF
  refine ⟨?_, ?_⟩
  · intro x1 x2 x3 e1 e2 e3 e4 h hW QQ hQ
    subst e1 e2 e3 e4
    refine en_segs [(4, .iload_n 3, []), (5, .aload_n 0, [])] (by decide +kernel) (y := (6, [some (.ref a0), some (.int x1), some (.int x2), some (.int x3), none], [.ref a0, .int x3], h)) rfl ?_
    refine en_get (by decide +kernel : u_at kl_252 6 = some (.getfield 39, [12, 20])) hW ha0 (by decide) rfl ?_
    refine en_segs [(9, .iconst 2, [])] (by decide +kernel) (y := (10, [some (.ref a0), some (.int x1), some (.int x2), some (.int x3), none], [.int 2, .ref (aP d 12 20 a0), .int x3], h)) rfl ?_
    obtain ⟨v1, hv1, hF⟩ := ob_some hF
    refine en_iald (by decide +kernel : u_at kl_252 10 = some (.iaload, [])) hW ha0 rfl (by decide) hv1 ?_
    refine en_ic_ge (by decide +kernel : u_at kl_252 11 = some (.if_icmp .ge 50, [61])) (fun b2 => ?_) (fun b2 => ?_)
    · replace hF := i_pos b2 hF
      refine en_fg (fg_k (fg_d (fg_d (fg_d (fg_k fg_0))))) ?_
      exact (ih _ _ _ _ _ _ hF).2 () rfl rfl rfl rfl  _ hW _ hQ
    · replace hF := i_neg b2 hF
      refine en_segs [(14, .iload_n 2, [])] (by decide +kernel) (y := (15, [some (.ref a0), some (.int x1), some (.int x2), some (.int x3), none], [.int x2], h)) rfl ?_
      refine en_if_ne (by decide +kernel : u_at kl_252 15 = some (.ifCond .ne 46, [61])) (fun b3 => ?_) (fun b3 => ?_)
      · replace hF := i_pos b3 hF
        refine en_segs [(18, .aload_n 0, []), (19, .iload_n 3, [])] (by decide +kernel) (y := (20, [some (.ref a0), some (.int x1), some (.int x2), some (.int x3), none], [.int x3, .ref a0], h)) rfl ?_
        obtain ⟨r4, hr4, hF⟩ := ob_some hF
        refine en_vi (r := []) (by decide +kernel : u_at kl_252 20 = some (.invokevirtual 346, [224, 1, 12])) hW ha0 rfl rfl (Nat.le_of_ble_eq_true rfl) (e_224 (D := D) (by omega) hW ha0 hr4) (fun h' q => ?_)
        subst q
        obtain ⟨t5, hX, hK⟩ := ob_some hF
        have j6 : ∀ h : UH, HW (mkw c0 c1 c2 c3 c4 c5 c6 c7 c8 c9 c10 c11 t5.2 c13) d h → Ends (EX D) (u_at kl_252) (36, [some (.ref a0), some (.int x1), some (.int x2), some (.int x3), none], [.int t5.1], h) QQ := by
          intro h hW
          have hF := hK
          refine en_segs [(36, .istore 4, []), (38, .iload 4, [])] (by decide +kernel) (y := (40, [some (.ref a0), some (.int x1), some (.int x2), some (.int x3), some (.int t5.1)], [.int t5.1], h)) rfl ?_
          obtain ⟨t7, hX, hK⟩ := ob_some hF
          have j8 : ∀ h : UH, HW (mkw c0 c1 c2 c3 c4 c5 c6 c7 c8 c9 c10 c11 t7.2 c13) d h → Ends (EX D) (u_at kl_252) (55, [some (.ref a0), some (.int x1), some (.int t7.1), some (.int x3), some (.int t5.1)], [], h) QQ := by
            intro h hW
            have hF := hK
            refine en_segs [(55, .iinc 3 1, []), (58, .goto (-54), [4])] (by decide +kernel) (y := (4, [some (.ref a0), some (.int x1), some (.int t7.1), some (.int (x3 + 1)), some (.int t5.1)], [], h)) rfl ?_
            refine en_fg (fg_k (fg_k (fg_k (fg_k (fg_d fg_0))))) ?_
            exact (ih _ _ _ _ _ _ hF).1 _ _ _ rfl rfl rfl rfl  _ hW _ hQ
          have hF := hX
          refine en_if_ge (by decide +kernel : u_at kl_252 40 = some (.ifCond .ge 6, [46])) (fun b9 => ?_) (fun b9 => ?_)
          · replace hF := i_pos b9 hF
            refine en_segs [(46, .aload_n 0, []), (47, .iload_n 3, []), (48, .iload 4, [])] (by decide +kernel) (y := (50, [some (.ref a0), some (.int x1), some (.int x2), some (.int x3), some (.int t5.1)], [.int t5.1, .int x3, .ref a0], h)) rfl ?_
            obtain ⟨r10, hr10, hF⟩ := ob_some hF
            refine en_vv (r := []) (by decide +kernel : u_at kl_252 50 = some (.invokevirtual 400, [244, 2, 12])) hW ha0 rfl rfl (Nat.le_of_ble_eq_true rfl) (e_244 (D := D) (by omega) hW ha0 hr10) (fun h hW => ?_)
            have hW : HW (mkw c0 c1 c2 c3 c4 c5 c6 c7 c8 c9 c10 c11 r10 c13) d h := hW
            refine en_segs [(53, .iconst 1, []), (54, .istore_n 2, [])] (by decide +kernel) (y := (55, [some (.ref a0), some (.int x1), some (.int 1), some (.int x3), some (.int t5.1)], [], h)) rfl ?_
            obtain rfl := Option.some.inj hF
            exact j8 _ hW
          · replace hF := i_neg b9 hF
            refine en_segs [(43, .goto 12, [55])] (by decide +kernel) (y := (55, [some (.ref a0), some (.int x1), some (.int x2), some (.int x3), some (.int t5.1)], [], h)) rfl ?_
            obtain rfl := Option.some.inj hF
            exact j8 _ hW
        have hF := hX
        refine en_if_eq (by decide +kernel : u_at kl_252 23 = some (.ifCond .eq 12, [35])) (fun b11 => ?_) (fun b11 => ?_)
        · replace hF := i_pos b11 hF
          refine en_segs [(35, .iconst (-1), [])] (by decide +kernel) (y := (36, [some (.ref a0), some (.int x1), some (.int x2), some (.int x3), none], [.int (-1)], h)) rfl ?_
          obtain rfl := Option.some.inj hF
          exact j6 _ hW
        · replace hF := i_neg b11 hF
          refine en_segs [(26, .aload_n 0, []), (27, .iload_n 1, []), (28, .iload_n 3, [])] (by decide +kernel) (y := (29, [some (.ref a0), some (.int x1), some (.int x2), some (.int x3), none], [.int x3, .int x1, .ref a0], h)) rfl ?_
          obtain ⟨r12, hr12, hF⟩ := ob_some hF
          refine en_vi (r := []) (by decide +kernel : u_at kl_252 29 = some (.invokevirtual 424, [250, 2, 12])) hW ha0 rfl rfl (Nat.le_of_ble_eq_true rfl) (e_250 (D := D) (by omega) hW ha0 hr12) (fun h hW => ?_)
          have hW : HW (mkw c0 c1 c2 c3 c4 c5 c6 c7 c8 c9 c10 c11 r12.2 c13) d h := hW
          refine en_segs [(32, .goto 4, [36])] (by decide +kernel) (y := (36, [some (.ref a0), some (.int x1), some (.int x2), some (.int x3), none], [.int r12.1], h)) rfl ?_
          obtain rfl := Option.some.inj hF
          exact j6 _ hW
      · replace hF := i_neg b3 hF
        refine en_fg (fg_k (fg_d (fg_d (fg_d (fg_k fg_0))))) ?_
        exact (ih _ _ _ _ _ _ hF).2 () rfl rfl rfl rfl  _ hW _ hQ
  · intro _ e1 e2 e3 e4 h hW QQ hQ
    subst e1 e2 e3 e4
    refine en_segs [(61, .aload_n 0, [])] (by decide +kernel) (y := (62, [some (.ref a0), none, none, none, none], [.ref a0], h)) rfl ?_
    obtain ⟨r13, hr13, hF⟩ := ob_some hF
    refine en_vv (r := []) (by decide +kernel : u_at kl_252 62 = some (.invokevirtual 403, [242, 0, 12])) hW ha0 rfl rfl (Nat.le_of_ble_eq_true rfl) (e_242 (D := D) (by omega) hW ha0 hr13) (fun h hW => ?_)
    have hW : HW (mkw c0 c1 c2 c3 c4 c5 c6 c7 c8 c9 c10 c11 r13 c13) d h := hW
    refine en_segs [(65, .aload_n 0, [])] (by decide +kernel) (y := (66, [some (.ref a0), none, none, none, none], [.ref a0], h)) rfl ?_
    obtain ⟨r14, hr14, hF⟩ := ob_some hF
    refine en_vv (r := []) (by decide +kernel : u_at kl_252 66 = some (.invokevirtual 325, [227, 0, 12])) hW ha0 rfl rfl (Nat.le_of_ble_eq_true rfl) (e_227 (D := D) (by omega) hW ha0 hr14) (fun h hW => ?_)
    have hW : HW (mkw c0 c1 c2 c3 c4 c5 c6 c7 c8 c9 c10 c11 r14 c13) d h := hW
    obtain rfl := Option.some.inj hF
    exact en_ret (by decide +kernel : u_at kl_252 69 = some (.return_, [])) rfl (hQ _ hW)
def F_252 (c12 : Cl) (a0 : Nat) (p1 : Int32) : Option Cl :=
  G_252 a0 0 [p1, 0, 0] [] [] c12
set_option maxRecDepth 100000 in
set_option maxHeartbeats 4000000 in
/-- HeadCountsModel.passes -/
theorem e_252 {D : Nat} {c0 c1 c2 c3 c4 c5 c6 c7 c8 c9 c10 c11 c12 c13 : Cl} {d : Ad} {h : UH} {a0 : Nat} {p1 : Int32} {r : Cl} (hD : 9 ≤ D) (hW : HW (mkw c0 c1 c2 c3 c4 c5 c6 c7 c8 c9 c10 c11 c12 c13) d h) (ha0 : aK d a0 = (0, 12, 0)) (hF : F_252 c12 a0 p1 = some r) : ∃ q, EX D 252 [.ref a0, .int p1] h q ∧ q.1 = none ∧ HW (mkw c0 c1 c2 c3 c4 c5 c6 c7 c8 c9 c10 c11 r c13) d q.2 := by
  obtain ⟨D, rfl⟩ : ∃ E, D = E + 1 := ⟨D - 1, by omega⟩
  unfold F_252 at hF
  refine ex_in (kl := kl_252) (nL := 5) rfl (by decide +kernel) (Nat.le_of_ble_eq_true rfl) ?_
  obtain ⟨QQ, hQQ⟩ : ∃ QQ : UR → Prop, QQ = (fun q : UR => q.1 = none ∧ HW (mkw c0 c1 c2 c3 c4 c5 c6 c7 c8 c9 c10 c11 r c13) d q.2) := ⟨_, rfl⟩
  rw [← hQQ]
  have hQ : ∀ h' : UH, HW (mkw c0 c1 c2 c3 c4 c5 c6 c7 c8 c9 c10 c11 r c13) d h' → QQ (none, h') := fun h' p => by rw [hQQ]; exact ⟨rfl, p⟩
  clear hQQ
  show Ends (EX D) (u_at kl_252) (0, [some (.ref a0), some (.int p1), none, none, none], [], h) QQ
  refine en_segs [(0, .iconst 0, []), (1, .istore_n 2, []), (2, .iconst 0, []), (3, .istore_n 3, [])] (by decide +kernel) (y := (4, [some (.ref a0), some (.int p1), some (.int 0), some (.int 0), none], [], h)) rfl ?_
  exact (g_252 (D := D) hD (d := d) ha0 _ _ _ _ _ _ hF).1 _ _ _ rfl rfl rfl rfl  _ hW _ hQ
def G_253 (a0 : Nat) (lab : Nat) (xs : List Int32) (ys : List Int64) (zs : List Nat) (c12 : Cl) : Option (Int32 × Cl) := match lab, xs, ys, zs with
  | 0, [x1, x2, x3], [], [] =>
    if x2 ≤ x3 then
    ald (cA c12 20 a0) 221 4 >>= fun v10 =>
    some (v10, c12)
    else
    F_239 c12 a0 >>= fun r11 =>
    F_252 r11 a0 x1 >>= fun r12 =>
    G_253 a0 0 [x1, x2, x3 + 1] [] [] r12
  | _, _, _, _ => none
partial_fixpoint
set_option maxRecDepth 100000 in
set_option maxHeartbeats 4000000 in
theorem g_253 {D : Nat} (hD : 10 ≤ D + 1) {c0 c1 c2 c3 c4 c5 c6 c7 c8 c9 c10 c11 c13 : Cl} {d : Ad} {a0 : Nat} (ha0 : aK d a0 = (0, 12, 0)) : ∀ (lab : Nat) (xs : List Int32) (ys : List Int64) (zs : List Nat) (c12 : Cl) (r : (Int32 × Cl)), G_253 a0 lab xs ys zs c12 = some r →
    (∀ (x1 : Int32) (x2 : Int32) (x3 : Int32), lab = 0 → xs = [x1, x2, x3] → ys = [] → zs = [] → ∀ h : UH, HW (mkw c0 c1 c2 c3 c4 c5 c6 c7 c8 c9 c10 c11 c12 c13) d h → ∀ QQ : UR → Prop, (∀ h' : UH, HW (mkw c0 c1 c2 c3 c4 c5 c6 c7 c8 c9 c10 c11 r.2 c13) d h' → QQ (some (.int r.1), h')) → Ends (EX D) (u_at kl_253) (45, [some (.ref a0), some (.int x1), some (.int x2), some (.int x3)], [], h) QQ) := by
  refine G_253.partial_correctness _ (motive := fun lab xs ys zs c12 r =>
    (∀ (x1 : Int32) (x2 : Int32) (x3 : Int32), lab = 0 → xs = [x1, x2, x3] → ys = [] → zs = [] → ∀ h : UH, HW (mkw c0 c1 c2 c3 c4 c5 c6 c7 c8 c9 c10 c11 c12 c13) d h → ∀ QQ : UR → Prop, (∀ h' : UH, HW (mkw c0 c1 c2 c3 c4 c5 c6 c7 c8 c9 c10 c11 r.2 c13) d h' → QQ (some (.int r.1), h')) → Ends (EX D) (u_at kl_253) (45, [some (.ref a0), some (.int x1), some (.int x2), some (.int x3)], [], h) QQ)) ?_
  intro G ih lab xs ys zs c12 r hF
  · intro x1 x2 x3 e1 e2 e3 e4 h hW QQ hQ
    subst e1 e2 e3 e4
    refine en_segs [(45, .iload_n 3, []), (46, .iload_n 2, [])] (by decide +kernel) (y := (47, [some (.ref a0), some (.int x1), some (.int x2), some (.int x3)], [.int x2, .int x3], h)) rfl ?_
    refine en_ic_ge (by decide +kernel : u_at kl_253 47 = some (.if_icmp .ge 18, [65])) (fun b9 => ?_) (fun b9 => ?_)
    · replace hF := i_pos b9 hF
      refine en_segs [(65, .aload_n 0, [])] (by decide +kernel) (y := (66, [some (.ref a0), some (.int x1), some (.int x2), some (.int x3)], [.ref a0], h)) rfl ?_
      refine en_get (by decide +kernel : u_at kl_253 66 = some (.getfield 39, [12, 20])) hW ha0 (by decide) rfl ?_
      refine en_segs [(69, .iconst 4, [])] (by decide +kernel) (y := (70, [some (.ref a0), some (.int x1), some (.int x2), some (.int x3)], [.int 4, .ref (aP d 12 20 a0)], h)) rfl ?_
      obtain ⟨v10, hv10, hF⟩ := ob_some hF
      refine en_iald (by decide +kernel : u_at kl_253 70 = some (.iaload, [])) hW ha0 rfl (by decide) hv10 ?_
      obtain rfl := Option.some.inj hF
      exact en_ret (by decide +kernel : u_at kl_253 71 = some (.ireturn, [0])) rfl (hQ _ hW)
    · replace hF := i_neg b9 hF
      refine en_segs [(50, .aload_n 0, [])] (by decide +kernel) (y := (51, [some (.ref a0), some (.int x1), some (.int x2), some (.int x3)], [.ref a0], h)) rfl ?_
      obtain ⟨r11, hr11, hF⟩ := ob_some hF
      refine en_vv (r := []) (by decide +kernel : u_at kl_253 51 = some (.invokevirtual 397, [239, 0, 12])) hW ha0 rfl rfl (Nat.le_of_ble_eq_true rfl) (e_239 (D := D) (by omega) hW ha0 hr11) (fun h hW => ?_)
      have hW : HW (mkw c0 c1 c2 c3 c4 c5 c6 c7 c8 c9 c10 c11 r11 c13) d h := hW
      refine en_segs [(54, .aload_n 0, []), (55, .iload_n 1, [])] (by decide +kernel) (y := (56, [some (.ref a0), some (.int x1), some (.int x2), some (.int x3)], [.int x1, .ref a0], h)) rfl ?_
      obtain ⟨r12, hr12, hF⟩ := ob_some hF
      refine en_vv (r := []) (by decide +kernel : u_at kl_253 56 = some (.invokevirtual 429, [252, 1, 12])) hW ha0 rfl rfl (Nat.le_of_ble_eq_true rfl) (e_252 (D := D) (by omega) hW ha0 hr12) (fun h hW => ?_)
      have hW : HW (mkw c0 c1 c2 c3 c4 c5 c6 c7 c8 c9 c10 c11 r12 c13) d h := hW
      refine en_segs [(59, .iinc 3 1, []), (62, .goto (-17), [45])] (by decide +kernel) (y := (45, [some (.ref a0), some (.int x1), some (.int x2), some (.int (x3 + 1))], [], h)) rfl ?_
      exact (ih _ _ _ _ _ _ hF) _ _ _ rfl rfl rfl rfl  _ hW _ hQ
def F_253 (c12 : Cl) (a0 : Nat) (p1 : Int32) (p2 : Int32) : Option (Int32 × Cl) :=
  F_218 c12 a0 >>= fun r1 =>
  if r1 = 0 then
  some ((-1), c12)
  else
  F_213 c12 a0 p1 >>= fun r3 =>
  if r3 = 0 then
  some ((-1), c12)
  else
  F_170 ((p2 : Int32).toInt64) 1 60 >>= fun r5 =>
  if r5 = 0 then
  some ((-1), c12)
  else
  ald (cA c12 20 a0) 221 4 >>= fun v7 =>
  if (v7 + p2) ≤ 9999 then
  G_253 a0 0 [p1, p2, 0] [] [] c12
  else
  some ((-1), c12)
set_option maxRecDepth 100000 in
set_option maxHeartbeats 4000000 in
/-- HeadCountsModel.run -/
theorem e_253 {D : Nat} {c0 c1 c2 c3 c4 c5 c6 c7 c8 c9 c10 c11 c12 c13 : Cl} {d : Ad} {h : UH} {a0 : Nat} {p1 : Int32} {p2 : Int32} {r : (Int32 × Cl)} (hD : 10 ≤ D) (hW : HW (mkw c0 c1 c2 c3 c4 c5 c6 c7 c8 c9 c10 c11 c12 c13) d h) (ha0 : aK d a0 = (0, 12, 0)) (hF : F_253 c12 a0 p1 p2 = some r) : ∃ q, EX D 253 [.ref a0, .int p1, .int p2] h q ∧ q.1 = some (.int r.1) ∧ HW (mkw c0 c1 c2 c3 c4 c5 c6 c7 c8 c9 c10 c11 r.2 c13) d q.2 := by
  obtain ⟨D, rfl⟩ : ∃ E, D = E + 1 := ⟨D - 1, by omega⟩
  unfold F_253 at hF
  refine ex_in (kl := kl_253) (nL := 4) rfl (by decide +kernel) (Nat.le_of_ble_eq_true rfl) ?_
  obtain ⟨QQ, hQQ⟩ : ∃ QQ : UR → Prop, QQ = (fun q : UR => q.1 = some (.int r.1) ∧ HW (mkw c0 c1 c2 c3 c4 c5 c6 c7 c8 c9 c10 c11 r.2 c13) d q.2) := ⟨_, rfl⟩
  rw [← hQQ]
  have hQ : ∀ h' : UH, HW (mkw c0 c1 c2 c3 c4 c5 c6 c7 c8 c9 c10 c11 r.2 c13) d h' → QQ (some (.int r.1), h') := fun h' p => by rw [hQQ]; exact ⟨rfl, p⟩
  clear hQQ
  show Ends (EX D) (u_at kl_253) (0, [some (.ref a0), some (.int p1), some (.int p2), none], [], h) QQ
  refine en_segs [(0, .aload_n 0, [])] (by decide +kernel) (y := (1, [some (.ref a0), some (.int p1), some (.int p2), none], [.ref a0], h)) rfl ?_
  obtain ⟨r1, hr1, hF⟩ := ob_some hF
  refine en_vi (r := []) (by decide +kernel : u_at kl_253 1 = some (.invokevirtual 409, [218, 0, 12])) hW ha0 rfl rfl (Nat.le_of_ble_eq_true rfl) (e_218 (D := D) (by omega) hW ha0 hr1) (fun h' q => ?_)
  subst q
  refine en_if_eq (by decide +kernel : u_at kl_253 4 = some (.ifCond .eq 37, [41])) (fun b2 => ?_) (fun b2 => ?_)
  · replace hF := i_pos b2 hF
    refine en_segs [(41, .iconst (-1), [])] (by decide +kernel) (y := (42, [some (.ref a0), some (.int p1), some (.int p2), none], [.int (-1)], h)) rfl ?_
    obtain rfl := Option.some.inj hF
    exact en_ret (by decide +kernel : u_at kl_253 42 = some (.ireturn, [0])) rfl (hQ _ hW)
  · replace hF := i_neg b2 hF
    refine en_segs [(7, .aload_n 0, []), (8, .iload_n 1, [])] (by decide +kernel) (y := (9, [some (.ref a0), some (.int p1), some (.int p2), none], [.int p1, .ref a0], h)) rfl ?_
    obtain ⟨r3, hr3, hF⟩ := ob_some hF
    refine en_vi (r := []) (by decide +kernel : u_at kl_253 9 = some (.invokevirtual 421, [213, 1, 12])) hW ha0 rfl rfl (Nat.le_of_ble_eq_true rfl) (e_213 (D := D) (by omega) hW ha0 hr3) (fun h' q => ?_)
    subst q
    refine en_if_eq (by decide +kernel : u_at kl_253 12 = some (.ifCond .eq 29, [41])) (fun b4 => ?_) (fun b4 => ?_)
    · replace hF := i_pos b4 hF
      refine en_segs [(41, .iconst (-1), [])] (by decide +kernel) (y := (42, [some (.ref a0), some (.int p1), some (.int p2), none], [.int (-1)], h)) rfl ?_
      obtain rfl := Option.some.inj hF
      exact en_ret (by decide +kernel : u_at kl_253 42 = some (.ireturn, [0])) rfl (hQ _ hW)
    · replace hF := i_neg b4 hF
      refine en_segs [(15, .iload_n 2, []), (16, .i2l, []), (17, .lconst 1, []), (18, .ldc2_w 427, [60])] (by decide +kernel) (y := (21, [some (.ref a0), some (.int p1), some (.int p2), none], [.long 60, .long 1, .long ((p2 : Int32).toInt64)], h)) rfl ?_
      obtain ⟨r5, hr5, hF⟩ := ob_some hF
      refine en_si (r := []) (by decide +kernel : u_at kl_253 21 = some (.invokestatic 161, [170, 3])) rfl rfl (Nat.le_of_ble_eq_true rfl) (e_170 (D := D) (by omega) hW hr5) (fun h' q => ?_)
      subst q
      refine en_if_eq (by decide +kernel : u_at kl_253 24 = some (.ifCond .eq 17, [41])) (fun b6 => ?_) (fun b6 => ?_)
      · replace hF := i_pos b6 hF
        refine en_segs [(41, .iconst (-1), [])] (by decide +kernel) (y := (42, [some (.ref a0), some (.int p1), some (.int p2), none], [.int (-1)], h)) rfl ?_
        obtain rfl := Option.some.inj hF
        exact en_ret (by decide +kernel : u_at kl_253 42 = some (.ireturn, [0])) rfl (hQ _ hW)
      · replace hF := i_neg b6 hF
        refine en_segs [(27, .aload_n 0, [])] (by decide +kernel) (y := (28, [some (.ref a0), some (.int p1), some (.int p2), none], [.ref a0], h)) rfl ?_
        refine en_get (by decide +kernel : u_at kl_253 28 = some (.getfield 39, [12, 20])) hW ha0 (by decide) rfl ?_
        refine en_segs [(31, .iconst 4, [])] (by decide +kernel) (y := (32, [some (.ref a0), some (.int p1), some (.int p2), none], [.int 4, .ref (aP d 12 20 a0)], h)) rfl ?_
        obtain ⟨v7, hv7, hF⟩ := ob_some hF
        refine en_iald (by decide +kernel : u_at kl_253 32 = some (.iaload, [])) hW ha0 rfl (by decide) hv7 ?_
        refine en_segs [(33, .iload_n 2, []), (34, .iadd, []), (35, .sipush 9999, [])] (by decide +kernel) (y := (38, [some (.ref a0), some (.int p1), some (.int p2), none], [.int 9999, .int (v7 + p2)], h)) rfl ?_
        refine en_ic_le (by decide +kernel : u_at kl_253 38 = some (.if_icmp .le 5, [43])) (fun b8 => ?_) (fun b8 => ?_)
        · replace hF := i_pos b8 hF
          refine en_segs [(43, .iconst 0, []), (44, .istore_n 3, [])] (by decide +kernel) (y := (45, [some (.ref a0), some (.int p1), some (.int p2), some (.int 0)], [], h)) rfl ?_
          exact (g_253 (D := D) hD (d := d) ha0 _ _ _ _ _ _ hF) _ _ _ rfl rfl rfl rfl  _ hW _ hQ
        · replace hF := i_neg b8 hF
          refine en_segs [(41, .iconst (-1), [])] (by decide +kernel) (y := (42, [some (.ref a0), some (.int p1), some (.int p2), none], [.int (-1)], h)) rfl ?_
          obtain rfl := Option.some.inj hF
          exact en_ret (by decide +kernel : u_at kl_253 42 = some (.ireturn, [0])) rfl (hQ _ hW)
def F_254 (c12 : Cl) (a0 : Nat) (p1 : Int32) (p2 : Int32) (p3 : Int32) : Option (Int32 × Cl) :=
  if p1 = (-1) then
  ast c12 20 a0 221 220 0 >>= fun c12_2 =>
  some (0, c12_2)
  else
  F_170 ((p1 : Int32).toInt64) 0 8 >>= fun r3 =>
  if r3 = 0 then
  some ((-2), c12)
  else
  F_222 c12 a0 p2 >>= fun r5 =>
  if r5 = 0 then
  some ((-2), c12)
  else
  F_170 ((p3 : Int32).toInt64) 0 99 >>= fun r7 =>
  if r7 = 0 then
  some ((-2), c12)
  else
  ald (cA c12 20 a0) 221 220 >>= fun v9 =>
  if v9 = 12 then
  some ((-2), c12)
  else
  ald (cA c12 20 a0) 221 220 >>= fun v11 =>
  ast c12 20 a0 221 (184 + (3 * v11)) p1 >>= fun c12_12 =>
  ast c12_12 20 a0 221 ((184 + (3 * v11)) + 1) p2 >>= fun c12_13 =>
  ast c12_13 20 a0 221 ((184 + (3 * v11)) + 2) p3 >>= fun c12_14 =>
  ald (cA c12_14 20 a0) 221 220 >>= fun v15 =>
  ast c12_14 20 a0 221 220 (v15 + 1) >>= fun c12_16 =>
  ald (cA c12_16 20 a0) 221 220 >>= fun v17 =>
  some (v17, c12_16)
set_option maxRecDepth 100000 in
set_option maxHeartbeats 4000000 in
/-- HeadCountsModel.tell -/
theorem e_254 {D : Nat} {c0 c1 c2 c3 c4 c5 c6 c7 c8 c9 c10 c11 c12 c13 : Cl} {d : Ad} {h : UH} {a0 : Nat} {p1 : Int32} {p2 : Int32} {p3 : Int32} {r : (Int32 × Cl)} (hD : 2 ≤ D) (hW : HW (mkw c0 c1 c2 c3 c4 c5 c6 c7 c8 c9 c10 c11 c12 c13) d h) (ha0 : aK d a0 = (0, 12, 0)) (hF : F_254 c12 a0 p1 p2 p3 = some r) : ∃ q, EX D 254 [.ref a0, .int p1, .int p2, .int p3] h q ∧ q.1 = some (.int r.1) ∧ HW (mkw c0 c1 c2 c3 c4 c5 c6 c7 c8 c9 c10 c11 r.2 c13) d q.2 := by
  obtain ⟨D, rfl⟩ : ∃ E, D = E + 1 := ⟨D - 1, by omega⟩
  unfold F_254 at hF
  refine ex_in (kl := kl_254) (nL := 5) rfl (by decide +kernel) (Nat.le_of_ble_eq_true rfl) ?_
  obtain ⟨QQ, hQQ⟩ : ∃ QQ : UR → Prop, QQ = (fun q : UR => q.1 = some (.int r.1) ∧ HW (mkw c0 c1 c2 c3 c4 c5 c6 c7 c8 c9 c10 c11 r.2 c13) d q.2) := ⟨_, rfl⟩
  rw [← hQQ]
  have hQ : ∀ h' : UH, HW (mkw c0 c1 c2 c3 c4 c5 c6 c7 c8 c9 c10 c11 r.2 c13) d h' → QQ (some (.int r.1), h') := fun h' p => by rw [hQQ]; exact ⟨rfl, p⟩
  clear hQQ
  show Ends (EX D) (u_at kl_254) (0, [some (.ref a0), some (.int p1), some (.int p2), some (.int p3), none], [], h) QQ
  refine en_segs [(0, .iload_n 1, []), (1, .iconst (-1), [])] (by decide +kernel) (y := (2, [some (.ref a0), some (.int p1), some (.int p2), some (.int p3), none], [.int (-1), .int p1], h)) rfl ?_
  refine en_ic_ne (by decide +kernel : u_at kl_254 2 = some (.if_icmp .ne 14, [16])) (fun b1 => ?_) (fun b1 => ?_)
  · replace hF := i_pos b1 hF
    refine en_segs [(5, .aload_n 0, [])] (by decide +kernel) (y := (6, [some (.ref a0), some (.int p1), some (.int p2), some (.int p3), none], [.ref a0], h)) rfl ?_
    refine en_get (by decide +kernel : u_at kl_254 6 = some (.getfield 39, [12, 20])) hW ha0 (by decide) rfl ?_
    refine en_segs [(9, .sipush 220, []), (12, .iconst 0, [])] (by decide +kernel) (y := (13, [some (.ref a0), some (.int p1), some (.int p2), some (.int p3), none], [.int 0, .int 220, .ref (aP d 12 20 a0)], h)) rfl ?_
    obtain ⟨c12_2, hc12_2, hF⟩ := ob_some hF
    refine en_iast (by decide +kernel : u_at kl_254 13 = some (.iastore, [])) hW ha0 rfl (by decide) hc12_2 (fun h hW => ?_)
    have hW : HW (mkw c0 c1 c2 c3 c4 c5 c6 c7 c8 c9 c10 c11 c12_2 c13) d h := hW
    refine en_segs [(14, .iconst 0, [])] (by decide +kernel) (y := (15, [some (.ref a0), some (.int p1), some (.int p2), some (.int p3), none], [.int 0], h)) rfl ?_
    obtain rfl := Option.some.inj hF
    exact en_ret (by decide +kernel : u_at kl_254 15 = some (.ireturn, [0])) rfl (hQ _ hW)
  · replace hF := i_neg b1 hF
    refine en_segs [(16, .iload_n 1, []), (17, .i2l, []), (18, .lconst 0, []), (19, .ldc2_w 432, [8])] (by decide +kernel) (y := (22, [some (.ref a0), some (.int p1), some (.int p2), some (.int p3), none], [.long 8, .long 0, .long ((p1 : Int32).toInt64)], h)) rfl ?_
    obtain ⟨r3, hr3, hF⟩ := ob_some hF
    refine en_si (r := []) (by decide +kernel : u_at kl_254 22 = some (.invokestatic 161, [170, 3])) rfl rfl (Nat.le_of_ble_eq_true rfl) (e_170 (D := D) (by omega) hW hr3) (fun h' q => ?_)
    subst q
    refine en_if_eq (by decide +kernel : u_at kl_254 25 = some (.ifCond .eq 36, [61])) (fun b4 => ?_) (fun b4 => ?_)
    · replace hF := i_pos b4 hF
      refine en_segs [(61, .bipush (-2), [])] (by decide +kernel) (y := (63, [some (.ref a0), some (.int p1), some (.int p2), some (.int p3), none], [.int (-2)], h)) rfl ?_
      obtain rfl := Option.some.inj hF
      exact en_ret (by decide +kernel : u_at kl_254 63 = some (.ireturn, [0])) rfl (hQ _ hW)
    · replace hF := i_neg b4 hF
      refine en_segs [(28, .aload_n 0, []), (29, .iload_n 2, [])] (by decide +kernel) (y := (30, [some (.ref a0), some (.int p1), some (.int p2), some (.int p3), none], [.int p2, .ref a0], h)) rfl ?_
      obtain ⟨r5, hr5, hF⟩ := ob_some hF
      refine en_vi (r := []) (by decide +kernel : u_at kl_254 30 = some (.invokevirtual 386, [222, 1, 12])) hW ha0 rfl rfl (Nat.le_of_ble_eq_true rfl) (e_222 (D := D) (by omega) hW ha0 hr5) (fun h' q => ?_)
      subst q
      refine en_if_eq (by decide +kernel : u_at kl_254 33 = some (.ifCond .eq 28, [61])) (fun b6 => ?_) (fun b6 => ?_)
      · replace hF := i_pos b6 hF
        refine en_segs [(61, .bipush (-2), [])] (by decide +kernel) (y := (63, [some (.ref a0), some (.int p1), some (.int p2), some (.int p3), none], [.int (-2)], h)) rfl ?_
        obtain rfl := Option.some.inj hF
        exact en_ret (by decide +kernel : u_at kl_254 63 = some (.ireturn, [0])) rfl (hQ _ hW)
      · replace hF := i_neg b6 hF
        refine en_segs [(36, .iload_n 3, []), (37, .i2l, []), (38, .lconst 0, []), (39, .ldc2_w 412, [99])] (by decide +kernel) (y := (42, [some (.ref a0), some (.int p1), some (.int p2), some (.int p3), none], [.long 99, .long 0, .long ((p3 : Int32).toInt64)], h)) rfl ?_
        obtain ⟨r7, hr7, hF⟩ := ob_some hF
        refine en_si (r := []) (by decide +kernel : u_at kl_254 42 = some (.invokestatic 161, [170, 3])) rfl rfl (Nat.le_of_ble_eq_true rfl) (e_170 (D := D) (by omega) hW hr7) (fun h' q => ?_)
        subst q
        refine en_if_eq (by decide +kernel : u_at kl_254 45 = some (.ifCond .eq 16, [61])) (fun b8 => ?_) (fun b8 => ?_)
        · replace hF := i_pos b8 hF
          refine en_segs [(61, .bipush (-2), [])] (by decide +kernel) (y := (63, [some (.ref a0), some (.int p1), some (.int p2), some (.int p3), none], [.int (-2)], h)) rfl ?_
          obtain rfl := Option.some.inj hF
          exact en_ret (by decide +kernel : u_at kl_254 63 = some (.ireturn, [0])) rfl (hQ _ hW)
        · replace hF := i_neg b8 hF
          refine en_segs [(48, .aload_n 0, [])] (by decide +kernel) (y := (49, [some (.ref a0), some (.int p1), some (.int p2), some (.int p3), none], [.ref a0], h)) rfl ?_
          refine en_get (by decide +kernel : u_at kl_254 49 = some (.getfield 39, [12, 20])) hW ha0 (by decide) rfl ?_
          refine en_segs [(52, .sipush 220, [])] (by decide +kernel) (y := (55, [some (.ref a0), some (.int p1), some (.int p2), some (.int p3), none], [.int 220, .ref (aP d 12 20 a0)], h)) rfl ?_
          obtain ⟨v9, hv9, hF⟩ := ob_some hF
          refine en_iald (by decide +kernel : u_at kl_254 55 = some (.iaload, [])) hW ha0 rfl (by decide) hv9 ?_
          refine en_segs [(56, .bipush 12, [])] (by decide +kernel) (y := (58, [some (.ref a0), some (.int p1), some (.int p2), some (.int p3), none], [.int 12, .int v9], h)) rfl ?_
          refine en_ic_ne (by decide +kernel : u_at kl_254 58 = some (.if_icmp .ne 6, [64])) (fun b10 => ?_) (fun b10 => ?_)
          · replace hF := i_pos b10 hF
            refine en_segs [(61, .bipush (-2), [])] (by decide +kernel) (y := (63, [some (.ref a0), some (.int p1), some (.int p2), some (.int p3), none], [.int (-2)], h)) rfl ?_
            obtain rfl := Option.some.inj hF
            exact en_ret (by decide +kernel : u_at kl_254 63 = some (.ireturn, [0])) rfl (hQ _ hW)
          · replace hF := i_neg b10 hF
            refine en_segs [(64, .sipush 184, []), (67, .iconst 3, []), (68, .aload_n 0, [])] (by decide +kernel) (y := (69, [some (.ref a0), some (.int p1), some (.int p2), some (.int p3), none], [.ref a0, .int 3, .int 184], h)) rfl ?_
            refine en_get (by decide +kernel : u_at kl_254 69 = some (.getfield 39, [12, 20])) hW ha0 (by decide) rfl ?_
            refine en_segs [(72, .sipush 220, [])] (by decide +kernel) (y := (75, [some (.ref a0), some (.int p1), some (.int p2), some (.int p3), none], [.int 220, .ref (aP d 12 20 a0), .int 3, .int 184], h)) rfl ?_
            obtain ⟨v11, hv11, hF⟩ := ob_some hF
            refine en_iald (by decide +kernel : u_at kl_254 75 = some (.iaload, [])) hW ha0 rfl (by decide) hv11 ?_
            refine en_segs [(76, .imul, []), (77, .iadd, []), (78, .istore 4, []), (80, .aload_n 0, [])] (by decide +kernel) (y := (81, [some (.ref a0), some (.int p1), some (.int p2), some (.int p3), some (.int (184 + (3 * v11)))], [.ref a0], h)) rfl ?_
            refine en_get (by decide +kernel : u_at kl_254 81 = some (.getfield 39, [12, 20])) hW ha0 (by decide) rfl ?_
            refine en_segs [(84, .iload 4, []), (86, .iload_n 1, [])] (by decide +kernel) (y := (87, [some (.ref a0), some (.int p1), some (.int p2), some (.int p3), some (.int (184 + (3 * v11)))], [.int p1, .int (184 + (3 * v11)), .ref (aP d 12 20 a0)], h)) rfl ?_
            obtain ⟨c12_12, hc12_12, hF⟩ := ob_some hF
            refine en_iast (by decide +kernel : u_at kl_254 87 = some (.iastore, [])) hW ha0 rfl (by decide) hc12_12 (fun h hW => ?_)
            have hW : HW (mkw c0 c1 c2 c3 c4 c5 c6 c7 c8 c9 c10 c11 c12_12 c13) d h := hW
            refine en_segs [(88, .aload_n 0, [])] (by decide +kernel) (y := (89, [some (.ref a0), some (.int p1), some (.int p2), some (.int p3), some (.int (184 + (3 * v11)))], [.ref a0], h)) rfl ?_
            refine en_get (by decide +kernel : u_at kl_254 89 = some (.getfield 39, [12, 20])) hW ha0 (by decide) rfl ?_
            refine en_segs [(92, .iload 4, []), (94, .iconst 1, []), (95, .iadd, []), (96, .iload_n 2, [])] (by decide +kernel) (y := (97, [some (.ref a0), some (.int p1), some (.int p2), some (.int p3), some (.int (184 + (3 * v11)))], [.int p2, .int ((184 + (3 * v11)) + 1), .ref (aP d 12 20 a0)], h)) rfl ?_
            obtain ⟨c12_13, hc12_13, hF⟩ := ob_some hF
            refine en_iast (by decide +kernel : u_at kl_254 97 = some (.iastore, [])) hW ha0 rfl (by decide) hc12_13 (fun h hW => ?_)
            have hW : HW (mkw c0 c1 c2 c3 c4 c5 c6 c7 c8 c9 c10 c11 c12_13 c13) d h := hW
            refine en_segs [(98, .aload_n 0, [])] (by decide +kernel) (y := (99, [some (.ref a0), some (.int p1), some (.int p2), some (.int p3), some (.int (184 + (3 * v11)))], [.ref a0], h)) rfl ?_
            refine en_get (by decide +kernel : u_at kl_254 99 = some (.getfield 39, [12, 20])) hW ha0 (by decide) rfl ?_
            refine en_segs [(102, .iload 4, []), (104, .iconst 2, []), (105, .iadd, []), (106, .iload_n 3, [])] (by decide +kernel) (y := (107, [some (.ref a0), some (.int p1), some (.int p2), some (.int p3), some (.int (184 + (3 * v11)))], [.int p3, .int ((184 + (3 * v11)) + 2), .ref (aP d 12 20 a0)], h)) rfl ?_
            obtain ⟨c12_14, hc12_14, hF⟩ := ob_some hF
            refine en_iast (by decide +kernel : u_at kl_254 107 = some (.iastore, [])) hW ha0 rfl (by decide) hc12_14 (fun h hW => ?_)
            have hW : HW (mkw c0 c1 c2 c3 c4 c5 c6 c7 c8 c9 c10 c11 c12_14 c13) d h := hW
            refine en_segs [(108, .aload_n 0, [])] (by decide +kernel) (y := (109, [some (.ref a0), some (.int p1), some (.int p2), some (.int p3), some (.int (184 + (3 * v11)))], [.ref a0], h)) rfl ?_
            refine en_get (by decide +kernel : u_at kl_254 109 = some (.getfield 39, [12, 20])) hW ha0 (by decide) rfl ?_
            refine en_segs [(112, .sipush 220, []), (115, .dup2, [])] (by decide +kernel) (y := (116, [some (.ref a0), some (.int p1), some (.int p2), some (.int p3), some (.int (184 + (3 * v11)))], [.int 220, .ref (aP d 12 20 a0), .int 220, .ref (aP d 12 20 a0)], h)) rfl ?_
            obtain ⟨v15, hv15, hF⟩ := ob_some hF
            refine en_iald (by decide +kernel : u_at kl_254 116 = some (.iaload, [])) hW ha0 rfl (by decide) hv15 ?_
            refine en_segs [(117, .iconst 1, []), (118, .iadd, [])] (by decide +kernel) (y := (119, [some (.ref a0), some (.int p1), some (.int p2), some (.int p3), some (.int (184 + (3 * v11)))], [.int (v15 + 1), .int 220, .ref (aP d 12 20 a0)], h)) rfl ?_
            obtain ⟨c12_16, hc12_16, hF⟩ := ob_some hF
            refine en_iast (by decide +kernel : u_at kl_254 119 = some (.iastore, [])) hW ha0 rfl (by decide) hc12_16 (fun h hW => ?_)
            have hW : HW (mkw c0 c1 c2 c3 c4 c5 c6 c7 c8 c9 c10 c11 c12_16 c13) d h := hW
            refine en_segs [(120, .aload_n 0, [])] (by decide +kernel) (y := (121, [some (.ref a0), some (.int p1), some (.int p2), some (.int p3), some (.int (184 + (3 * v11)))], [.ref a0], h)) rfl ?_
            refine en_get (by decide +kernel : u_at kl_254 121 = some (.getfield 39, [12, 20])) hW ha0 (by decide) rfl ?_
            refine en_segs [(124, .sipush 220, [])] (by decide +kernel) (y := (127, [some (.ref a0), some (.int p1), some (.int p2), some (.int p3), some (.int (184 + (3 * v11)))], [.int 220, .ref (aP d 12 20 a0)], h)) rfl ?_
            obtain ⟨v17, hv17, hF⟩ := ob_some hF
            refine en_iald (by decide +kernel : u_at kl_254 127 = some (.iaload, [])) hW ha0 rfl (by decide) hv17 ?_
            obtain rfl := Option.some.inj hF
            exact en_ret (by decide +kernel : u_at kl_254 128 = some (.ireturn, [0])) rfl (hQ _ hW)
def G_255 (a0 : Nat) (lab : Nat) (xs : List Int32) (ys : List Int64) (zs : List Nat) (c12 : Cl) : Option Cl := match lab, xs, ys, zs with
  | 0, [x1, x2], [], [] =>
    if 6 ≤ x2 then
    some c12
    else
    ald (cA c12 25 a0) 6 x2 >>= fun v2 =>
    idv x1 v2 >>= fun v3 =>
    irm v3 6 >>= fun v4 =>
    ast c12 24 a0 6 x2 v4 >>= fun c12_5 =>
    G_255 a0 0 [x1, x2 + 1] [] [] c12_5
  | _, _, _, _ => none
partial_fixpoint
set_option maxRecDepth 100000 in
set_option maxHeartbeats 4000000 in
theorem g_255 {D : Nat} (hD : 1 ≤ D + 1) {c0 c1 c2 c3 c4 c5 c6 c7 c8 c9 c10 c11 c13 : Cl} {d : Ad} {a0 : Nat} (ha0 : aK d a0 = (0, 12, 0)) : ∀ (lab : Nat) (xs : List Int32) (ys : List Int64) (zs : List Nat) (c12 : Cl) (r : Cl), G_255 a0 lab xs ys zs c12 = some r →
    (∀ (x1 : Int32) (x2 : Int32), lab = 0 → xs = [x1, x2] → ys = [] → zs = [] → ∀ h : UH, HW (mkw c0 c1 c2 c3 c4 c5 c6 c7 c8 c9 c10 c11 c12 c13) d h → ∀ QQ : UR → Prop, (∀ h' : UH, HW (mkw c0 c1 c2 c3 c4 c5 c6 c7 c8 c9 c10 c11 r c13) d h' → QQ (none, h')) → Ends (EX D) (u_at kl_255) (2, [some (.ref a0), some (.int x1), some (.int x2)], [], h) QQ) := by
  refine G_255.partial_correctness _ (motive := fun lab xs ys zs c12 r =>
    (∀ (x1 : Int32) (x2 : Int32), lab = 0 → xs = [x1, x2] → ys = [] → zs = [] → ∀ h : UH, HW (mkw c0 c1 c2 c3 c4 c5 c6 c7 c8 c9 c10 c11 c12 c13) d h → ∀ QQ : UR → Prop, (∀ h' : UH, HW (mkw c0 c1 c2 c3 c4 c5 c6 c7 c8 c9 c10 c11 r c13) d h' → QQ (none, h')) → Ends (EX D) (u_at kl_255) (2, [some (.ref a0), some (.int x1), some (.int x2)], [], h) QQ)) ?_
  intro G ih lab xs ys zs c12 r hF
  · intro x1 x2 e1 e2 e3 e4 h hW QQ hQ
    subst e1 e2 e3 e4
    refine en_segs [(2, .iload_n 2, []), (3, .bipush 6, [])] (by decide +kernel) (y := (5, [some (.ref a0), some (.int x1), some (.int x2)], [.int 6, .int x2], h)) rfl ?_
    refine en_ic_ge (by decide +kernel : u_at kl_255 5 = some (.if_icmp .ge 26, [31])) (fun b1 => ?_) (fun b1 => ?_)
    · replace hF := i_pos b1 hF
      obtain rfl := Option.some.inj hF
      exact en_ret (by decide +kernel : u_at kl_255 31 = some (.return_, [])) rfl (hQ _ hW)
    · replace hF := i_neg b1 hF
      refine en_segs [(8, .aload_n 0, [])] (by decide +kernel) (y := (9, [some (.ref a0), some (.int x1), some (.int x2)], [.ref a0], h)) rfl ?_
      refine en_get (by decide +kernel : u_at kl_255 9 = some (.getfield 45, [12, 24])) hW ha0 (by decide) rfl ?_
      refine en_segs [(12, .iload_n 2, []), (13, .iload_n 1, []), (14, .aload_n 0, [])] (by decide +kernel) (y := (15, [some (.ref a0), some (.int x1), some (.int x2)], [.ref a0, .int x1, .int x2, .ref (aP d 12 24 a0)], h)) rfl ?_
      refine en_get (by decide +kernel : u_at kl_255 15 = some (.getfield 48, [12, 25])) hW ha0 (by decide) rfl ?_
      refine en_segs [(18, .iload_n 2, [])] (by decide +kernel) (y := (19, [some (.ref a0), some (.int x1), some (.int x2)], [.int x2, .ref (aP d 12 25 a0), .int x1, .int x2, .ref (aP d 12 24 a0)], h)) rfl ?_
      obtain ⟨v2, hv2, hF⟩ := ob_some hF
      refine en_iald (by decide +kernel : u_at kl_255 19 = some (.iaload, [])) hW ha0 rfl (by decide) hv2 ?_
      obtain ⟨v3, hv3, hF⟩ := ob_some hF
      refine en_idiv (by decide +kernel : u_at kl_255 20 = some (.idiv, [])) hv3 ?_
      refine en_segs [(21, .bipush 6, [])] (by decide +kernel) (y := (23, [some (.ref a0), some (.int x1), some (.int x2)], [.int 6, .int v3, .int x2, .ref (aP d 12 24 a0)], h)) rfl ?_
      obtain ⟨v4, hv4, hF⟩ := ob_some hF
      refine en_irem (by decide +kernel : u_at kl_255 23 = some (.irem, [])) hv4 ?_
      obtain ⟨c12_5, hc12_5, hF⟩ := ob_some hF
      refine en_iast (by decide +kernel : u_at kl_255 24 = some (.iastore, [])) hW ha0 rfl (by decide) hc12_5 (fun h hW => ?_)
      have hW : HW (mkw c0 c1 c2 c3 c4 c5 c6 c7 c8 c9 c10 c11 c12_5 c13) d h := hW
      refine en_segs [(25, .iinc 2 1, []), (28, .goto (-26), [2])] (by decide +kernel) (y := (2, [some (.ref a0), some (.int x1), some (.int (x2 + 1))], [], h)) rfl ?_
      exact (ih _ _ _ _ _ _ hF) _ _ rfl rfl rfl rfl  _ hW _ hQ
def F_255 (c12 : Cl) (a0 : Nat) (p1 : Int32) : Option Cl :=
  G_255 a0 0 [p1, 0] [] [] c12
set_option maxRecDepth 100000 in
set_option maxHeartbeats 4000000 in
/-- HeadCountsModel.looks -/
theorem e_255 {D : Nat} {c0 c1 c2 c3 c4 c5 c6 c7 c8 c9 c10 c11 c12 c13 : Cl} {d : Ad} {h : UH} {a0 : Nat} {p1 : Int32} {r : Cl} (hD : 1 ≤ D) (hW : HW (mkw c0 c1 c2 c3 c4 c5 c6 c7 c8 c9 c10 c11 c12 c13) d h) (ha0 : aK d a0 = (0, 12, 0)) (hF : F_255 c12 a0 p1 = some r) : ∃ q, EX D 255 [.ref a0, .int p1] h q ∧ q.1 = none ∧ HW (mkw c0 c1 c2 c3 c4 c5 c6 c7 c8 c9 c10 c11 r c13) d q.2 := by
  obtain ⟨D, rfl⟩ : ∃ E, D = E + 1 := ⟨D - 1, by omega⟩
  unfold F_255 at hF
  refine ex_in (kl := kl_255) (nL := 3) rfl (by decide +kernel) (Nat.le_of_ble_eq_true rfl) ?_
  obtain ⟨QQ, hQQ⟩ : ∃ QQ : UR → Prop, QQ = (fun q : UR => q.1 = none ∧ HW (mkw c0 c1 c2 c3 c4 c5 c6 c7 c8 c9 c10 c11 r c13) d q.2) := ⟨_, rfl⟩
  rw [← hQQ]
  have hQ : ∀ h' : UH, HW (mkw c0 c1 c2 c3 c4 c5 c6 c7 c8 c9 c10 c11 r c13) d h' → QQ (none, h') := fun h' p => by rw [hQQ]; exact ⟨rfl, p⟩
  clear hQQ
  show Ends (EX D) (u_at kl_255) (0, [some (.ref a0), some (.int p1), none], [], h) QQ
  refine en_segs [(0, .iconst 0, []), (1, .istore_n 2, [])] (by decide +kernel) (y := (2, [some (.ref a0), some (.int p1), some (.int 0)], [], h)) rfl ?_
  exact (g_255 (D := D) hD (d := d) ha0 _ _ _ _ _ _ hF) _ _ rfl rfl rfl rfl  _ hW _ hQ
def G_256 (c12 : Cl) (a0 : Nat) (lab : Nat) (xs : List Int32) (ys : List Int64) (zs : List Nat) : Option Int32 := match lab, xs, ys, zs with
  | 0, [x1, x2], [], [] =>
    ald (cA c12 20 a0) 221 2 >>= fun v1 =>
    if v1 ≤ x2 then
    some x1
    else
    F_224 c12 a0 x2 >>= fun r3 =>
    ((if r3 = 0 then
    some 0
    else
    ald (cA c12 25 a0) 6 x2 >>= fun v7 =>
    F_223 c12 a0 x2 0 >>= fun r8 =>
    some (v7 * r8)) : Option (Int32)) >>= fun (t4 : Int32) =>
    G_256 c12 a0 0 [x1 + t4, x2 + 1] [] []
  | _, _, _, _ => none
partial_fixpoint
set_option maxRecDepth 100000 in
set_option maxHeartbeats 4000000 in
theorem g_256 {D : Nat} (hD : 3 ≤ D + 1) {c0 c1 c2 c3 c4 c5 c6 c7 c8 c9 c10 c11 c12 c13 : Cl} {d : Ad} {a0 : Nat} (ha0 : aK d a0 = (0, 12, 0)) : ∀ (lab : Nat) (xs : List Int32) (ys : List Int64) (zs : List Nat) (r : Int32), G_256 c12 a0 lab xs ys zs = some r →
    (∀ (x1 : Int32) (x2 : Int32), lab = 0 → xs = [x1, x2] → ys = [] → zs = [] → ∀ h : UH, HW (mkw c0 c1 c2 c3 c4 c5 c6 c7 c8 c9 c10 c11 c12 c13) d h → ∀ QQ : UR → Prop, QQ (some (.int r), h) → Ends (EX D) (u_at kl_256) (4, [some (.ref a0), some (.int x1), some (.int x2)], [], h) QQ) := by
  refine G_256.partial_correctness _ _ (motive := fun lab xs ys zs r =>
    (∀ (x1 : Int32) (x2 : Int32), lab = 0 → xs = [x1, x2] → ys = [] → zs = [] → ∀ h : UH, HW (mkw c0 c1 c2 c3 c4 c5 c6 c7 c8 c9 c10 c11 c12 c13) d h → ∀ QQ : UR → Prop, QQ (some (.int r), h) → Ends (EX D) (u_at kl_256) (4, [some (.ref a0), some (.int x1), some (.int x2)], [], h) QQ)) ?_
  intro G ih lab xs ys zs r hF
  · intro x1 x2 e1 e2 e3 e4 h hW QQ hQ
    subst e1 e2 e3 e4
    refine en_segs [(4, .iload_n 2, []), (5, .aload_n 0, [])] (by decide +kernel) (y := (6, [some (.ref a0), some (.int x1), some (.int x2)], [.ref a0, .int x2], h)) rfl ?_
    refine en_get (by decide +kernel : u_at kl_256 6 = some (.getfield 39, [12, 20])) hW ha0 (by decide) rfl ?_
    refine en_segs [(9, .iconst 2, [])] (by decide +kernel) (y := (10, [some (.ref a0), some (.int x1), some (.int x2)], [.int 2, .ref (aP d 12 20 a0), .int x2], h)) rfl ?_
    obtain ⟨v1, hv1, hF⟩ := ob_some hF
    refine en_iald (by decide +kernel : u_at kl_256 10 = some (.iaload, [])) hW ha0 rfl (by decide) hv1 ?_
    refine en_ic_ge (by decide +kernel : u_at kl_256 11 = some (.if_icmp .ge 37, [48])) (fun b2 => ?_) (fun b2 => ?_)
    · replace hF := i_pos b2 hF
      refine en_segs [(48, .iload_n 1, [])] (by decide +kernel) (y := (49, [some (.ref a0), some (.int x1), some (.int x2)], [.int x1], h)) rfl ?_
      obtain rfl := Option.some.inj hF
      exact en_ret (by decide +kernel : u_at kl_256 49 = some (.ireturn, [0])) rfl (hQ)
    · replace hF := i_neg b2 hF
      refine en_segs [(14, .iload_n 1, []), (15, .aload_n 0, []), (16, .iload_n 2, [])] (by decide +kernel) (y := (17, [some (.ref a0), some (.int x1), some (.int x2)], [.int x2, .ref a0, .int x1], h)) rfl ?_
      obtain ⟨r3, hr3, hF⟩ := ob_some hF
      refine en_vi (r := [.int x1]) (by decide +kernel : u_at kl_256 17 = some (.invokevirtual 346, [224, 1, 12])) hW ha0 rfl rfl (Nat.le_of_ble_eq_true rfl) (e_224 (D := D) (by omega) hW ha0 hr3) (fun h' q => ?_)
      subst q
      obtain ⟨t4, hX, hK⟩ := ob_some hF
      have j5 : Ends (EX D) (u_at kl_256) (40, [some (.ref a0), some (.int x1), some (.int x2)], [.int t4, .int x1], h) QQ := by
        have hF := hK
        refine en_segs [(40, .iadd, []), (41, .istore_n 1, []), (42, .iinc 2 1, []), (45, .goto (-41), [4])] (by decide +kernel) (y := (4, [some (.ref a0), some (.int (x1 + t4)), some (.int (x2 + 1))], [], h)) rfl ?_
        exact (ih _ _ _ _ _ hF) _ _ rfl rfl rfl rfl  _ hW _ hQ
      have hF := hX
      refine en_if_eq (by decide +kernel : u_at kl_256 20 = some (.ifCond .eq 19, [39])) (fun b6 => ?_) (fun b6 => ?_)
      · replace hF := i_pos b6 hF
        refine en_segs [(39, .iconst 0, [])] (by decide +kernel) (y := (40, [some (.ref a0), some (.int x1), some (.int x2)], [.int 0, .int x1], h)) rfl ?_
        obtain rfl := Option.some.inj hF
        exact j5
      · replace hF := i_neg b6 hF
        refine en_segs [(23, .aload_n 0, [])] (by decide +kernel) (y := (24, [some (.ref a0), some (.int x1), some (.int x2)], [.ref a0, .int x1], h)) rfl ?_
        refine en_get (by decide +kernel : u_at kl_256 24 = some (.getfield 48, [12, 25])) hW ha0 (by decide) rfl ?_
        refine en_segs [(27, .iload_n 2, [])] (by decide +kernel) (y := (28, [some (.ref a0), some (.int x1), some (.int x2)], [.int x2, .ref (aP d 12 25 a0), .int x1], h)) rfl ?_
        obtain ⟨v7, hv7, hF⟩ := ob_some hF
        refine en_iald (by decide +kernel : u_at kl_256 28 = some (.iaload, [])) hW ha0 rfl (by decide) hv7 ?_
        refine en_segs [(29, .aload_n 0, []), (30, .iload_n 2, []), (31, .iconst 0, [])] (by decide +kernel) (y := (32, [some (.ref a0), some (.int x1), some (.int x2)], [.int 0, .int x2, .ref a0, .int v7, .int x1], h)) rfl ?_
        obtain ⟨r8, hr8, hF⟩ := ob_some hF
        refine en_vi (r := [.int v7, .int x1]) (by decide +kernel : u_at kl_256 32 = some (.invokevirtual 343, [223, 2, 12])) hW ha0 rfl rfl (Nat.le_of_ble_eq_true rfl) (e_223 (D := D) (by omega) hW ha0 hr8) (fun h' q => ?_)
        subst q
        refine en_segs [(35, .imul, []), (36, .goto 4, [40])] (by decide +kernel) (y := (40, [some (.ref a0), some (.int x1), some (.int x2)], [.int (v7 * r8), .int x1], h)) rfl ?_
        obtain rfl := Option.some.inj hF
        exact j5
def F_256 (c12 : Cl) (a0 : Nat) : Option Int32 :=
  G_256 c12 a0 0 [0, 0] [] []
set_option maxRecDepth 100000 in
set_option maxHeartbeats 4000000 in
/-- HeadCountsModel.situationNow -/
theorem e_256 {D : Nat} {c0 c1 c2 c3 c4 c5 c6 c7 c8 c9 c10 c11 c12 c13 : Cl} {d : Ad} {h : UH} {a0 : Nat} {r : Int32} (hD : 3 ≤ D) (hW : HW (mkw c0 c1 c2 c3 c4 c5 c6 c7 c8 c9 c10 c11 c12 c13) d h) (ha0 : aK d a0 = (0, 12, 0)) (hF : F_256 c12 a0 = some r) : ∃ q, EX D 256 [.ref a0] h q ∧ q.1 = some (.int r) ∧ h = q.2 := by
  obtain ⟨D, rfl⟩ : ∃ E, D = E + 1 := ⟨D - 1, by omega⟩
  unfold F_256 at hF
  refine ex_in (kl := kl_256) (nL := 3) rfl (by decide +kernel) (Nat.le_of_ble_eq_true rfl) ?_
  obtain ⟨QQ, hQQ⟩ : ∃ QQ : UR → Prop, QQ = (fun q : UR => q.1 = some (.int r) ∧ h = q.2) := ⟨_, rfl⟩
  rw [← hQQ]
  have hQ : QQ (some (.int r), h) := by rw [hQQ]; exact ⟨rfl, rfl⟩
  clear hQQ
  show Ends (EX D) (u_at kl_256) (0, [some (.ref a0), none, none], [], h) QQ
  refine en_segs [(0, .iconst 0, []), (1, .istore_n 1, []), (2, .iconst 0, []), (3, .istore_n 2, [])] (by decide +kernel) (y := (4, [some (.ref a0), some (.int 0), some (.int 0)], [], h)) rfl ?_
  exact (g_256 (D := D) hD (d := d) ha0 _ _ _ _ _ hF) _ _ rfl rfl rfl rfl  _ hW _ hQ
def G_257 (c12 : Cl) (a0 : Nat) (lab : Nat) (xs : List Int32) (ys : List Int64) (zs : List Nat) : Option (Int32 × Cl) := match lab, xs, ys, zs with
  | 0, [x2], [], [] =>
    if 6 ≤ x2 then
    some (1, c12)
    else
    F_221 c12 a0 x2 >>= fun r3 =>
    ((if r3 = 0 then
    some 0
    else
    F_224 c12 a0 x2 >>= fun r13 =>
    if r13 = 0 then
    some 0
    else
    some 1) : Option (Int32)) >>= fun (t4 : Int32) =>
    if t4 = 0 then
    ald (cA c12 24 a0) 6 x2 >>= fun v7 =>
    if v7 ≤ 0 then
    G_257 c12 a0 0 [x2 + 1] [] []
    else
    some (0, c12)
    else
    ald (cA c12 24 a0) 6 x2 >>= fun v9 =>
    ald (cA c12 20 a0) 221 0 >>= fun v10 =>
    if v9 < v10 then
    G_257 c12 a0 0 [x2 + 1] [] []
    else
    some (0, c12)
  | _, _, _, _ => none
partial_fixpoint
set_option maxRecDepth 100000 in
set_option maxHeartbeats 4000000 in
theorem g_257 {D : Nat} (hD : 3 ≤ D + 1) {c0 c1 c2 c3 c4 c5 c6 c7 c8 c9 c10 c11 c12 c13 : Cl} {d : Ad} {a0 : Nat} (ha0 : aK d a0 = (0, 12, 0)) : ∀ (lab : Nat) (xs : List Int32) (ys : List Int64) (zs : List Nat) (r : (Int32 × Cl)), G_257 c12 a0 lab xs ys zs = some r →
    (∀ (x2 : Int32), lab = 0 → xs = [x2] → ys = [] → zs = [] → ∀ h : UH, HW (mkw c0 c1 c2 c3 c4 c5 c6 c7 c8 c9 c10 c11 c12 c13) d h → ∀ QQ : UR → Prop, (∀ h' : UH, HW (mkw c0 c1 c2 c3 c4 c5 c6 c7 c8 c9 c10 c11 r.2 c13) d h' → QQ (some (.int r.1), h')) → Ends (EX D) (u_at kl_257) (7, [some (.ref a0), none, some (.int x2), none], [], h) QQ) := by
  refine G_257.partial_correctness _ _ (motive := fun lab xs ys zs r =>
    (∀ (x2 : Int32), lab = 0 → xs = [x2] → ys = [] → zs = [] → ∀ h : UH, HW (mkw c0 c1 c2 c3 c4 c5 c6 c7 c8 c9 c10 c11 c12 c13) d h → ∀ QQ : UR → Prop, (∀ h' : UH, HW (mkw c0 c1 c2 c3 c4 c5 c6 c7 c8 c9 c10 c11 r.2 c13) d h' → QQ (some (.int r.1), h')) → Ends (EX D) (u_at kl_257) (7, [some (.ref a0), none, some (.int x2), none], [], h) QQ)) ?_
  intro G ih lab xs ys zs r hF
  · intro x2 e1 e2 e3 e4 h hW QQ hQ
    subst e1 e2 e3 e4
    refine en_segs [(7, .iload_n 2, []), (8, .bipush 6, [])] (by decide +kernel) (y := (10, [some (.ref a0), none, some (.int x2), none], [.int 6, .int x2], h)) rfl ?_
    refine en_ic_ge (by decide +kernel : u_at kl_257 10 = some (.if_icmp .ge 64, [74])) (fun b2 => ?_) (fun b2 => ?_)
    · replace hF := i_pos b2 hF
      refine en_segs [(74, .iconst 1, [])] (by decide +kernel) (y := (75, [some (.ref a0), none, some (.int x2), none], [.int 1], h)) rfl ?_
      obtain rfl := Option.some.inj hF
      exact en_ret (by decide +kernel : u_at kl_257 75 = some (.ireturn, [1])) rfl (hQ _ hW)
    · replace hF := i_neg b2 hF
      refine en_segs [(13, .aload_n 0, []), (14, .iload_n 2, [])] (by decide +kernel) (y := (15, [some (.ref a0), none, some (.int x2), none], [.int x2, .ref a0], h)) rfl ?_
      obtain ⟨r3, hr3, hF⟩ := ob_some hF
      refine en_vi (r := []) (by decide +kernel : u_at kl_257 15 = some (.invokevirtual 367, [221, 1, 12])) hW ha0 rfl rfl (Nat.le_of_ble_eq_true rfl) (e_221 (D := D) (by omega) hW ha0 hr3) (fun h' q => ?_)
      subst q
      obtain ⟨t4, hX, hK⟩ := ob_some hF
      have j5 : ∀ h : UH, HW (mkw c0 c1 c2 c3 c4 c5 c6 c7 c8 c9 c10 c11 c12 c13) d h → Ends (EX D) (u_at kl_257) (34, [some (.ref a0), none, some (.int x2), none], [.int t4], h) QQ := by
        intro h hW
        have hF := hK
        refine en_segs [(34, .istore_n 3, []), (35, .iload_n 3, [])] (by decide +kernel) (y := (36, [some (.ref a0), none, some (.int x2), some (.int t4)], [.int t4], h)) rfl ?_
        refine en_if_eq (by decide +kernel : u_at kl_257 36 = some (.ifCond .eq 21, [57])) (fun b6 => ?_) (fun b6 => ?_)
        · replace hF := i_pos b6 hF
          refine en_segs [(57, .aload_n 0, [])] (by decide +kernel) (y := (58, [some (.ref a0), none, some (.int x2), some (.int t4)], [.ref a0], h)) rfl ?_
          refine en_get (by decide +kernel : u_at kl_257 58 = some (.getfield 45, [12, 24])) hW ha0 (by decide) rfl ?_
          refine en_segs [(61, .iload_n 2, [])] (by decide +kernel) (y := (62, [some (.ref a0), none, some (.int x2), some (.int t4)], [.int x2, .ref (aP d 12 24 a0)], h)) rfl ?_
          obtain ⟨v7, hv7, hF⟩ := ob_some hF
          refine en_iald (by decide +kernel : u_at kl_257 62 = some (.iaload, [])) hW ha0 rfl (by decide) hv7 ?_
          refine en_if_le (by decide +kernel : u_at kl_257 63 = some (.ifCond .le 5, [68])) (fun b8 => ?_) (fun b8 => ?_)
          · replace hF := i_pos b8 hF
            refine en_segs [(68, .iinc 2 1, []), (71, .goto (-64), [7])] (by decide +kernel) (y := (7, [some (.ref a0), none, some (.int (x2 + 1)), some (.int t4)], [], h)) rfl ?_
            refine en_fg (fg_k (fg_k (fg_k (fg_d fg_0)))) ?_
            exact (ih _ _ _ _ _ hF) _ rfl rfl rfl rfl  _ hW _ hQ
          · replace hF := i_neg b8 hF
            refine en_segs [(66, .iconst 0, [])] (by decide +kernel) (y := (67, [some (.ref a0), none, some (.int x2), some (.int t4)], [.int 0], h)) rfl ?_
            obtain rfl := Option.some.inj hF
            exact en_ret (by decide +kernel : u_at kl_257 67 = some (.ireturn, [1])) rfl (hQ _ hW)
        · replace hF := i_neg b6 hF
          refine en_segs [(39, .aload_n 0, [])] (by decide +kernel) (y := (40, [some (.ref a0), none, some (.int x2), some (.int t4)], [.ref a0], h)) rfl ?_
          refine en_get (by decide +kernel : u_at kl_257 40 = some (.getfield 45, [12, 24])) hW ha0 (by decide) rfl ?_
          refine en_segs [(43, .iload_n 2, [])] (by decide +kernel) (y := (44, [some (.ref a0), none, some (.int x2), some (.int t4)], [.int x2, .ref (aP d 12 24 a0)], h)) rfl ?_
          obtain ⟨v9, hv9, hF⟩ := ob_some hF
          refine en_iald (by decide +kernel : u_at kl_257 44 = some (.iaload, [])) hW ha0 rfl (by decide) hv9 ?_
          refine en_segs [(45, .aload_n 0, [])] (by decide +kernel) (y := (46, [some (.ref a0), none, some (.int x2), some (.int t4)], [.ref a0, .int v9], h)) rfl ?_
          refine en_get (by decide +kernel : u_at kl_257 46 = some (.getfield 39, [12, 20])) hW ha0 (by decide) rfl ?_
          refine en_segs [(49, .iconst 0, [])] (by decide +kernel) (y := (50, [some (.ref a0), none, some (.int x2), some (.int t4)], [.int 0, .ref (aP d 12 20 a0), .int v9], h)) rfl ?_
          obtain ⟨v10, hv10, hF⟩ := ob_some hF
          refine en_iald (by decide +kernel : u_at kl_257 50 = some (.iaload, [])) hW ha0 rfl (by decide) hv10 ?_
          refine en_ic_lt (by decide +kernel : u_at kl_257 51 = some (.if_icmp .lt 17, [68])) (fun b11 => ?_) (fun b11 => ?_)
          · replace hF := i_pos b11 hF
            refine en_segs [(68, .iinc 2 1, []), (71, .goto (-64), [7])] (by decide +kernel) (y := (7, [some (.ref a0), none, some (.int (x2 + 1)), some (.int t4)], [], h)) rfl ?_
            refine en_fg (fg_k (fg_k (fg_k (fg_d fg_0)))) ?_
            exact (ih _ _ _ _ _ hF) _ rfl rfl rfl rfl  _ hW _ hQ
          · replace hF := i_neg b11 hF
            refine en_segs [(54, .goto 12, [66]), (66, .iconst 0, [])] (by decide +kernel) (y := (67, [some (.ref a0), none, some (.int x2), some (.int t4)], [.int 0], h)) rfl ?_
            obtain rfl := Option.some.inj hF
            exact en_ret (by decide +kernel : u_at kl_257 67 = some (.ireturn, [1])) rfl (hQ _ hW)
      have hF := hX
      refine en_if_eq (by decide +kernel : u_at kl_257 18 = some (.ifCond .eq 15, [33])) (fun b12 => ?_) (fun b12 => ?_)
      · replace hF := i_pos b12 hF
        refine en_segs [(33, .iconst 0, [])] (by decide +kernel) (y := (34, [some (.ref a0), none, some (.int x2), none], [.int 0], h)) rfl ?_
        obtain rfl := Option.some.inj hF
        exact j5 _ hW
      · replace hF := i_neg b12 hF
        refine en_segs [(21, .aload_n 0, []), (22, .iload_n 2, [])] (by decide +kernel) (y := (23, [some (.ref a0), none, some (.int x2), none], [.int x2, .ref a0], h)) rfl ?_
        obtain ⟨r13, hr13, hF⟩ := ob_some hF
        refine en_vi (r := []) (by decide +kernel : u_at kl_257 23 = some (.invokevirtual 346, [224, 1, 12])) hW ha0 rfl rfl (Nat.le_of_ble_eq_true rfl) (e_224 (D := D) (by omega) hW ha0 hr13) (fun h' q => ?_)
        subst q
        refine en_if_eq (by decide +kernel : u_at kl_257 26 = some (.ifCond .eq 7, [33])) (fun b14 => ?_) (fun b14 => ?_)
        · replace hF := i_pos b14 hF
          refine en_segs [(33, .iconst 0, [])] (by decide +kernel) (y := (34, [some (.ref a0), none, some (.int x2), none], [.int 0], h)) rfl ?_
          obtain rfl := Option.some.inj hF
          exact j5 _ hW
        · replace hF := i_neg b14 hF
          refine en_segs [(29, .iconst 1, []), (30, .goto 4, [34])] (by decide +kernel) (y := (34, [some (.ref a0), none, some (.int x2), none], [.int 1], h)) rfl ?_
          obtain rfl := Option.some.inj hF
          exact j5 _ hW
def F_257 (c12 : Cl) (a0 : Nat) (p1 : Int32) : Option (Int32 × Cl) :=
  F_255 c12 a0 p1 >>= fun r1 =>
  G_257 r1 a0 0 [0] [] []
set_option maxRecDepth 100000 in
set_option maxHeartbeats 4000000 in
/-- HeadCountsModel.isSituation -/
theorem e_257 {D : Nat} {c0 c1 c2 c3 c4 c5 c6 c7 c8 c9 c10 c11 c12 c13 : Cl} {d : Ad} {h : UH} {a0 : Nat} {p1 : Int32} {r : (Int32 × Cl)} (hD : 3 ≤ D) (hW : HW (mkw c0 c1 c2 c3 c4 c5 c6 c7 c8 c9 c10 c11 c12 c13) d h) (ha0 : aK d a0 = (0, 12, 0)) (hF : F_257 c12 a0 p1 = some r) : ∃ q, EX D 257 [.ref a0, .int p1] h q ∧ q.1 = some (.int r.1) ∧ HW (mkw c0 c1 c2 c3 c4 c5 c6 c7 c8 c9 c10 c11 r.2 c13) d q.2 := by
  obtain ⟨D, rfl⟩ : ∃ E, D = E + 1 := ⟨D - 1, by omega⟩
  unfold F_257 at hF
  refine ex_in (kl := kl_257) (nL := 4) rfl (by decide +kernel) (Nat.le_of_ble_eq_true rfl) ?_
  obtain ⟨QQ, hQQ⟩ : ∃ QQ : UR → Prop, QQ = (fun q : UR => q.1 = some (.int r.1) ∧ HW (mkw c0 c1 c2 c3 c4 c5 c6 c7 c8 c9 c10 c11 r.2 c13) d q.2) := ⟨_, rfl⟩
  rw [← hQQ]
  have hQ : ∀ h' : UH, HW (mkw c0 c1 c2 c3 c4 c5 c6 c7 c8 c9 c10 c11 r.2 c13) d h' → QQ (some (.int r.1), h') := fun h' p => by rw [hQQ]; exact ⟨rfl, p⟩
  clear hQQ
  show Ends (EX D) (u_at kl_257) (0, [some (.ref a0), some (.int p1), none, none], [], h) QQ
  refine en_segs [(0, .aload_n 0, []), (1, .iload_n 1, [])] (by decide +kernel) (y := (2, [some (.ref a0), some (.int p1), none, none], [.int p1, .ref a0], h)) rfl ?_
  obtain ⟨r1, hr1, hF⟩ := ob_some hF
  refine en_vv (r := []) (by decide +kernel : u_at kl_257 2 = some (.invokevirtual 434, [255, 1, 12])) hW ha0 rfl rfl (Nat.le_of_ble_eq_true rfl) (e_255 (D := D) (by omega) hW ha0 hr1) (fun h hW => ?_)
  have hW : HW (mkw c0 c1 c2 c3 c4 c5 c6 c7 c8 c9 c10 c11 r1 c13) d h := hW
  refine en_segs [(5, .iconst 0, []), (6, .istore_n 2, [])] (by decide +kernel) (y := (7, [some (.ref a0), some (.int p1), some (.int 0), none], [], h)) rfl ?_
  refine en_fg (fg_k (fg_d (fg_k (fg_k fg_0)))) ?_
  exact (g_257 (D := D) hD (d := d) ha0 _ _ _ _ _ hF) _ rfl rfl rfl rfl  _ hW _ hQ
def G_258 (c12 : Cl) (a0 : Nat) (lab : Nat) (xs : List Int32) (ys : List Int64) (zs : List Nat) : Option Int32 := match lab, xs, ys, zs with
  | 0, [x1, x2, x3], [], [] =>
    ald (cA c12 20 a0) 221 2 >>= fun v1 =>
    if v1 ≤ x3 then
    some x2
    else
    F_224 c12 a0 x3 >>= fun r3 =>
    ((if r3 = 0 then
    some 0
    else
    ald (cA c12 24 a0) 6 x3 >>= fun v7 =>
    if v7 = x1 then
    F_223 c12 a0 x3 1 >>= fun r9 =>
    some r9
    else
    some 0) : Option (Int32)) >>= fun (t4 : Int32) =>
    G_258 c12 a0 0 [x1, x2 + t4, x3 + 1] [] []
  | _, _, _, _ => none
partial_fixpoint
set_option maxRecDepth 100000 in
set_option maxHeartbeats 4000000 in
theorem g_258 {D : Nat} (hD : 3 ≤ D + 1) {c0 c1 c2 c3 c4 c5 c6 c7 c8 c9 c10 c11 c12 c13 : Cl} {d : Ad} {a0 : Nat} (ha0 : aK d a0 = (0, 12, 0)) : ∀ (lab : Nat) (xs : List Int32) (ys : List Int64) (zs : List Nat) (r : Int32), G_258 c12 a0 lab xs ys zs = some r →
    (∀ (x1 : Int32) (x2 : Int32) (x3 : Int32), lab = 0 → xs = [x1, x2, x3] → ys = [] → zs = [] → ∀ h : UH, HW (mkw c0 c1 c2 c3 c4 c5 c6 c7 c8 c9 c10 c11 c12 c13) d h → ∀ QQ : UR → Prop, QQ (some (.int r), h) → Ends (EX D) (u_at kl_258) (4, [some (.ref a0), some (.int x1), some (.int x2), some (.int x3)], [], h) QQ) := by
  refine G_258.partial_correctness _ _ (motive := fun lab xs ys zs r =>
    (∀ (x1 : Int32) (x2 : Int32) (x3 : Int32), lab = 0 → xs = [x1, x2, x3] → ys = [] → zs = [] → ∀ h : UH, HW (mkw c0 c1 c2 c3 c4 c5 c6 c7 c8 c9 c10 c11 c12 c13) d h → ∀ QQ : UR → Prop, QQ (some (.int r), h) → Ends (EX D) (u_at kl_258) (4, [some (.ref a0), some (.int x1), some (.int x2), some (.int x3)], [], h) QQ)) ?_
  intro G ih lab xs ys zs r hF
  · intro x1 x2 x3 e1 e2 e3 e4 h hW QQ hQ
    subst e1 e2 e3 e4
    refine en_segs [(4, .iload_n 3, []), (5, .aload_n 0, [])] (by decide +kernel) (y := (6, [some (.ref a0), some (.int x1), some (.int x2), some (.int x3)], [.ref a0, .int x3], h)) rfl ?_
    refine en_get (by decide +kernel : u_at kl_258 6 = some (.getfield 39, [12, 20])) hW ha0 (by decide) rfl ?_
    refine en_segs [(9, .iconst 2, [])] (by decide +kernel) (y := (10, [some (.ref a0), some (.int x1), some (.int x2), some (.int x3)], [.int 2, .ref (aP d 12 20 a0), .int x3], h)) rfl ?_
    obtain ⟨v1, hv1, hF⟩ := ob_some hF
    refine en_iald (by decide +kernel : u_at kl_258 10 = some (.iaload, [])) hW ha0 rfl (by decide) hv1 ?_
    refine en_ic_ge (by decide +kernel : u_at kl_258 11 = some (.if_icmp .ge 40, [51])) (fun b2 => ?_) (fun b2 => ?_)
    · replace hF := i_pos b2 hF
      refine en_segs [(51, .iload_n 2, [])] (by decide +kernel) (y := (52, [some (.ref a0), some (.int x1), some (.int x2), some (.int x3)], [.int x2], h)) rfl ?_
      obtain rfl := Option.some.inj hF
      exact en_ret (by decide +kernel : u_at kl_258 52 = some (.ireturn, [0])) rfl (hQ)
    · replace hF := i_neg b2 hF
      refine en_segs [(14, .iload_n 2, []), (15, .aload_n 0, []), (16, .iload_n 3, [])] (by decide +kernel) (y := (17, [some (.ref a0), some (.int x1), some (.int x2), some (.int x3)], [.int x3, .ref a0, .int x2], h)) rfl ?_
      obtain ⟨r3, hr3, hF⟩ := ob_some hF
      refine en_vi (r := [.int x2]) (by decide +kernel : u_at kl_258 17 = some (.invokevirtual 346, [224, 1, 12])) hW ha0 rfl rfl (Nat.le_of_ble_eq_true rfl) (e_224 (D := D) (by omega) hW ha0 hr3) (fun h' q => ?_)
      subst q
      obtain ⟨t4, hX, hK⟩ := ob_some hF
      have j5 : Ends (EX D) (u_at kl_258) (43, [some (.ref a0), some (.int x1), some (.int x2), some (.int x3)], [.int t4, .int x2], h) QQ := by
        have hF := hK
        refine en_segs [(43, .iadd, []), (44, .istore_n 2, []), (45, .iinc 3 1, []), (48, .goto (-44), [4])] (by decide +kernel) (y := (4, [some (.ref a0), some (.int x1), some (.int (x2 + t4)), some (.int (x3 + 1))], [], h)) rfl ?_
        exact (ih _ _ _ _ _ hF) _ _ _ rfl rfl rfl rfl  _ hW _ hQ
      have hF := hX
      refine en_if_eq (by decide +kernel : u_at kl_258 20 = some (.ifCond .eq 22, [42])) (fun b6 => ?_) (fun b6 => ?_)
      · replace hF := i_pos b6 hF
        refine en_segs [(42, .iconst 0, [])] (by decide +kernel) (y := (43, [some (.ref a0), some (.int x1), some (.int x2), some (.int x3)], [.int 0, .int x2], h)) rfl ?_
        obtain rfl := Option.some.inj hF
        exact j5
      · replace hF := i_neg b6 hF
        refine en_segs [(23, .aload_n 0, [])] (by decide +kernel) (y := (24, [some (.ref a0), some (.int x1), some (.int x2), some (.int x3)], [.ref a0, .int x2], h)) rfl ?_
        refine en_get (by decide +kernel : u_at kl_258 24 = some (.getfield 45, [12, 24])) hW ha0 (by decide) rfl ?_
        refine en_segs [(27, .iload_n 3, [])] (by decide +kernel) (y := (28, [some (.ref a0), some (.int x1), some (.int x2), some (.int x3)], [.int x3, .ref (aP d 12 24 a0), .int x2], h)) rfl ?_
        obtain ⟨v7, hv7, hF⟩ := ob_some hF
        refine en_iald (by decide +kernel : u_at kl_258 28 = some (.iaload, [])) hW ha0 rfl (by decide) hv7 ?_
        refine en_segs [(29, .iload_n 1, [])] (by decide +kernel) (y := (30, [some (.ref a0), some (.int x1), some (.int x2), some (.int x3)], [.int x1, .int v7, .int x2], h)) rfl ?_
        refine en_ic_ne (by decide +kernel : u_at kl_258 30 = some (.if_icmp .ne 12, [42])) (fun b8 => ?_) (fun b8 => ?_)
        · replace hF := i_pos b8 hF
          refine en_segs [(33, .aload_n 0, []), (34, .iload_n 3, []), (35, .iconst 1, [])] (by decide +kernel) (y := (36, [some (.ref a0), some (.int x1), some (.int x2), some (.int x3)], [.int 1, .int x3, .ref a0, .int x2], h)) rfl ?_
          obtain ⟨r9, hr9, hF⟩ := ob_some hF
          refine en_vi (r := [.int x2]) (by decide +kernel : u_at kl_258 36 = some (.invokevirtual 343, [223, 2, 12])) hW ha0 rfl rfl (Nat.le_of_ble_eq_true rfl) (e_223 (D := D) (by omega) hW ha0 hr9) (fun h' q => ?_)
          subst q
          refine en_segs [(39, .goto 4, [43])] (by decide +kernel) (y := (43, [some (.ref a0), some (.int x1), some (.int x2), some (.int x3)], [.int r9, .int x2], h)) rfl ?_
          obtain rfl := Option.some.inj hF
          exact j5
        · replace hF := i_neg b8 hF
          refine en_segs [(42, .iconst 0, [])] (by decide +kernel) (y := (43, [some (.ref a0), some (.int x1), some (.int x2), some (.int x3)], [.int 0, .int x2], h)) rfl ?_
          obtain rfl := Option.some.inj hF
          exact j5
def F_258 (c12 : Cl) (a0 : Nat) (p1 : Int32) : Option Int32 :=
  G_258 c12 a0 0 [p1, 0, 0] [] []
set_option maxRecDepth 100000 in
set_option maxHeartbeats 4000000 in
/-- HeadCountsModel.livingAt -/
theorem e_258 {D : Nat} {c0 c1 c2 c3 c4 c5 c6 c7 c8 c9 c10 c11 c12 c13 : Cl} {d : Ad} {h : UH} {a0 : Nat} {p1 : Int32} {r : Int32} (hD : 3 ≤ D) (hW : HW (mkw c0 c1 c2 c3 c4 c5 c6 c7 c8 c9 c10 c11 c12 c13) d h) (ha0 : aK d a0 = (0, 12, 0)) (hF : F_258 c12 a0 p1 = some r) : ∃ q, EX D 258 [.ref a0, .int p1] h q ∧ q.1 = some (.int r) ∧ h = q.2 := by
  obtain ⟨D, rfl⟩ : ∃ E, D = E + 1 := ⟨D - 1, by omega⟩
  unfold F_258 at hF
  refine ex_in (kl := kl_258) (nL := 4) rfl (by decide +kernel) (Nat.le_of_ble_eq_true rfl) ?_
  obtain ⟨QQ, hQQ⟩ : ∃ QQ : UR → Prop, QQ = (fun q : UR => q.1 = some (.int r) ∧ h = q.2) := ⟨_, rfl⟩
  rw [← hQQ]
  have hQ : QQ (some (.int r), h) := by rw [hQQ]; exact ⟨rfl, rfl⟩
  clear hQQ
  show Ends (EX D) (u_at kl_258) (0, [some (.ref a0), some (.int p1), none, none], [], h) QQ
  refine en_segs [(0, .iconst 0, []), (1, .istore_n 2, []), (2, .iconst 0, []), (3, .istore_n 3, [])] (by decide +kernel) (y := (4, [some (.ref a0), some (.int p1), some (.int 0), some (.int 0)], [], h)) rfl ?_
  exact (g_258 (D := D) hD (d := d) ha0 _ _ _ _ _ hF) _ _ _ rfl rfl rfl rfl  _ hW _ hQ
def G_259 (c12 : Cl) (a0 : Nat) (lab : Nat) (xs : List Int32) (ys : List Int64) (zs : List Nat) : Option Int32 := match lab, xs, ys, zs with
  | 0, [x1, x2, x3], [], [] =>
    ald (cA c12 20 a0) 221 2 >>= fun v1 =>
    if v1 ≤ x3 then
    some x2
    else
    F_224 c12 a0 x3 >>= fun r3 =>
    ((if r3 = 0 then
    some 0
    else
    ald (cA c12 20 a0) 221 (88 + x1) >>= fun v7 =>
    ald (cA c12 24 a0) 6 x3 >>= fun v8 =>
    F_171 v7 v8 >>= fun r9 =>
    if r9 = 0 then
    some 0
    else
    F_223 c12 a0 x3 1 >>= fun r11 =>
    some r11) : Option (Int32)) >>= fun (t4 : Int32) =>
    G_259 c12 a0 0 [x1, x2 + t4, x3 + 1] [] []
  | _, _, _, _ => none
partial_fixpoint
set_option maxRecDepth 100000 in
set_option maxHeartbeats 4000000 in
theorem g_259 {D : Nat} (hD : 3 ≤ D + 1) {c0 c1 c2 c3 c4 c5 c6 c7 c8 c9 c10 c11 c12 c13 : Cl} {d : Ad} {a0 : Nat} (ha0 : aK d a0 = (0, 12, 0)) : ∀ (lab : Nat) (xs : List Int32) (ys : List Int64) (zs : List Nat) (r : Int32), G_259 c12 a0 lab xs ys zs = some r →
    (∀ (x1 : Int32) (x2 : Int32) (x3 : Int32), lab = 0 → xs = [x1, x2, x3] → ys = [] → zs = [] → ∀ h : UH, HW (mkw c0 c1 c2 c3 c4 c5 c6 c7 c8 c9 c10 c11 c12 c13) d h → ∀ QQ : UR → Prop, QQ (some (.int r), h) → Ends (EX D) (u_at kl_259) (4, [some (.ref a0), some (.int x1), some (.int x2), some (.int x3)], [], h) QQ) := by
  refine G_259.partial_correctness _ _ (motive := fun lab xs ys zs r =>
    (∀ (x1 : Int32) (x2 : Int32) (x3 : Int32), lab = 0 → xs = [x1, x2, x3] → ys = [] → zs = [] → ∀ h : UH, HW (mkw c0 c1 c2 c3 c4 c5 c6 c7 c8 c9 c10 c11 c12 c13) d h → ∀ QQ : UR → Prop, QQ (some (.int r), h) → Ends (EX D) (u_at kl_259) (4, [some (.ref a0), some (.int x1), some (.int x2), some (.int x3)], [], h) QQ)) ?_
  intro G ih lab xs ys zs r hF
  · intro x1 x2 x3 e1 e2 e3 e4 h hW QQ hQ
    subst e1 e2 e3 e4
    refine en_segs [(4, .iload_n 3, []), (5, .aload_n 0, [])] (by decide +kernel) (y := (6, [some (.ref a0), some (.int x1), some (.int x2), some (.int x3)], [.ref a0, .int x3], h)) rfl ?_
    refine en_get (by decide +kernel : u_at kl_259 6 = some (.getfield 39, [12, 20])) hW ha0 (by decide) rfl ?_
    refine en_segs [(9, .iconst 2, [])] (by decide +kernel) (y := (10, [some (.ref a0), some (.int x1), some (.int x2), some (.int x3)], [.int 2, .ref (aP d 12 20 a0), .int x3], h)) rfl ?_
    obtain ⟨v1, hv1, hF⟩ := ob_some hF
    refine en_iald (by decide +kernel : u_at kl_259 10 = some (.iaload, [])) hW ha0 rfl (by decide) hv1 ?_
    refine en_ic_ge (by decide +kernel : u_at kl_259 11 = some (.if_icmp .ge 51, [62])) (fun b2 => ?_) (fun b2 => ?_)
    · replace hF := i_pos b2 hF
      refine en_segs [(62, .iload_n 2, [])] (by decide +kernel) (y := (63, [some (.ref a0), some (.int x1), some (.int x2), some (.int x3)], [.int x2], h)) rfl ?_
      obtain rfl := Option.some.inj hF
      exact en_ret (by decide +kernel : u_at kl_259 63 = some (.ireturn, [0])) rfl (hQ)
    · replace hF := i_neg b2 hF
      refine en_segs [(14, .iload_n 2, []), (15, .aload_n 0, []), (16, .iload_n 3, [])] (by decide +kernel) (y := (17, [some (.ref a0), some (.int x1), some (.int x2), some (.int x3)], [.int x3, .ref a0, .int x2], h)) rfl ?_
      obtain ⟨r3, hr3, hF⟩ := ob_some hF
      refine en_vi (r := [.int x2]) (by decide +kernel : u_at kl_259 17 = some (.invokevirtual 346, [224, 1, 12])) hW ha0 rfl rfl (Nat.le_of_ble_eq_true rfl) (e_224 (D := D) (by omega) hW ha0 hr3) (fun h' q => ?_)
      subst q
      obtain ⟨t4, hX, hK⟩ := ob_some hF
      have j5 : Ends (EX D) (u_at kl_259) (54, [some (.ref a0), some (.int x1), some (.int x2), some (.int x3)], [.int t4, .int x2], h) QQ := by
        have hF := hK
        refine en_segs [(54, .iadd, []), (55, .istore_n 2, []), (56, .iinc 3 1, []), (59, .goto (-55), [4])] (by decide +kernel) (y := (4, [some (.ref a0), some (.int x1), some (.int (x2 + t4)), some (.int (x3 + 1))], [], h)) rfl ?_
        exact (ih _ _ _ _ _ hF) _ _ _ rfl rfl rfl rfl  _ hW _ hQ
      have hF := hX
      refine en_if_eq (by decide +kernel : u_at kl_259 20 = some (.ifCond .eq 33, [53])) (fun b6 => ?_) (fun b6 => ?_)
      · replace hF := i_pos b6 hF
        refine en_segs [(53, .iconst 0, [])] (by decide +kernel) (y := (54, [some (.ref a0), some (.int x1), some (.int x2), some (.int x3)], [.int 0, .int x2], h)) rfl ?_
        obtain rfl := Option.some.inj hF
        exact j5
      · replace hF := i_neg b6 hF
        refine en_segs [(23, .aload_n 0, [])] (by decide +kernel) (y := (24, [some (.ref a0), some (.int x1), some (.int x2), some (.int x3)], [.ref a0, .int x2], h)) rfl ?_
        refine en_get (by decide +kernel : u_at kl_259 24 = some (.getfield 39, [12, 20])) hW ha0 (by decide) rfl ?_
        refine en_segs [(27, .bipush 88, []), (29, .iload_n 1, []), (30, .iadd, [])] (by decide +kernel) (y := (31, [some (.ref a0), some (.int x1), some (.int x2), some (.int x3)], [.int (88 + x1), .ref (aP d 12 20 a0), .int x2], h)) rfl ?_
        obtain ⟨v7, hv7, hF⟩ := ob_some hF
        refine en_iald (by decide +kernel : u_at kl_259 31 = some (.iaload, [])) hW ha0 rfl (by decide) hv7 ?_
        refine en_segs [(32, .aload_n 0, [])] (by decide +kernel) (y := (33, [some (.ref a0), some (.int x1), some (.int x2), some (.int x3)], [.ref a0, .int v7, .int x2], h)) rfl ?_
        refine en_get (by decide +kernel : u_at kl_259 33 = some (.getfield 45, [12, 24])) hW ha0 (by decide) rfl ?_
        refine en_segs [(36, .iload_n 3, [])] (by decide +kernel) (y := (37, [some (.ref a0), some (.int x1), some (.int x2), some (.int x3)], [.int x3, .ref (aP d 12 24 a0), .int v7, .int x2], h)) rfl ?_
        obtain ⟨v8, hv8, hF⟩ := ob_some hF
        refine en_iald (by decide +kernel : u_at kl_259 37 = some (.iaload, [])) hW ha0 rfl (by decide) hv8 ?_
        obtain ⟨r9, hr9, hF⟩ := ob_some hF
        refine en_si (r := [.int x2]) (by decide +kernel : u_at kl_259 38 = some (.invokestatic 361, [171, 2])) rfl rfl (Nat.le_of_ble_eq_true rfl) (e_171 (D := D) (by omega) hW hr9) (fun h' q => ?_)
        subst q
        refine en_if_eq (by decide +kernel : u_at kl_259 41 = some (.ifCond .eq 12, [53])) (fun b10 => ?_) (fun b10 => ?_)
        · replace hF := i_pos b10 hF
          refine en_segs [(53, .iconst 0, [])] (by decide +kernel) (y := (54, [some (.ref a0), some (.int x1), some (.int x2), some (.int x3)], [.int 0, .int x2], h)) rfl ?_
          obtain rfl := Option.some.inj hF
          exact j5
        · replace hF := i_neg b10 hF
          refine en_segs [(44, .aload_n 0, []), (45, .iload_n 3, []), (46, .iconst 1, [])] (by decide +kernel) (y := (47, [some (.ref a0), some (.int x1), some (.int x2), some (.int x3)], [.int 1, .int x3, .ref a0, .int x2], h)) rfl ?_
          obtain ⟨r11, hr11, hF⟩ := ob_some hF
          refine en_vi (r := [.int x2]) (by decide +kernel : u_at kl_259 47 = some (.invokevirtual 343, [223, 2, 12])) hW ha0 rfl rfl (Nat.le_of_ble_eq_true rfl) (e_223 (D := D) (by omega) hW ha0 hr11) (fun h' q => ?_)
          subst q
          refine en_segs [(50, .goto 4, [54])] (by decide +kernel) (y := (54, [some (.ref a0), some (.int x1), some (.int x2), some (.int x3)], [.int r11, .int x2], h)) rfl ?_
          obtain rfl := Option.some.inj hF
          exact j5
def F_259 (c12 : Cl) (a0 : Nat) (p1 : Int32) : Option Int32 :=
  G_259 c12 a0 0 [p1, 0, 0] [] []
set_option maxRecDepth 100000 in
set_option maxHeartbeats 4000000 in
/-- HeadCountsModel.livingBy -/
theorem e_259 {D : Nat} {c0 c1 c2 c3 c4 c5 c6 c7 c8 c9 c10 c11 c12 c13 : Cl} {d : Ad} {h : UH} {a0 : Nat} {p1 : Int32} {r : Int32} (hD : 3 ≤ D) (hW : HW (mkw c0 c1 c2 c3 c4 c5 c6 c7 c8 c9 c10 c11 c12 c13) d h) (ha0 : aK d a0 = (0, 12, 0)) (hF : F_259 c12 a0 p1 = some r) : ∃ q, EX D 259 [.ref a0, .int p1] h q ∧ q.1 = some (.int r) ∧ h = q.2 := by
  obtain ⟨D, rfl⟩ : ∃ E, D = E + 1 := ⟨D - 1, by omega⟩
  unfold F_259 at hF
  refine ex_in (kl := kl_259) (nL := 4) rfl (by decide +kernel) (Nat.le_of_ble_eq_true rfl) ?_
  obtain ⟨QQ, hQQ⟩ : ∃ QQ : UR → Prop, QQ = (fun q : UR => q.1 = some (.int r) ∧ h = q.2) := ⟨_, rfl⟩
  rw [← hQQ]
  have hQ : QQ (some (.int r), h) := by rw [hQQ]; exact ⟨rfl, rfl⟩
  clear hQQ
  show Ends (EX D) (u_at kl_259) (0, [some (.ref a0), some (.int p1), none, none], [], h) QQ
  refine en_segs [(0, .iconst 0, []), (1, .istore_n 2, []), (2, .iconst 0, []), (3, .istore_n 3, [])] (by decide +kernel) (y := (4, [some (.ref a0), some (.int p1), some (.int 0), some (.int 0)], [], h)) rfl ?_
  exact (g_259 (D := D) hD (d := d) ha0 _ _ _ _ _ hF) _ _ _ rfl rfl rfl rfl  _ hW _ hQ
def F_260 (c12 : Cl) (a0 : Nat) (p1 : Int32) (p2 : Int32) : Option Int32 :=
  F_224 c12 a0 p1 >>= fun r1 =>
  ((if r1 = 0 then
  some 0
  else
  ald (cA c12 24 a0) 6 p1 >>= fun v6 =>
  F_232 c12 a0 v6 >>= fun r7 =>
  F_171 r7 p2 >>= fun r8 =>
  if r8 = 0 then
  some 0
  else
  F_258 c12 a0 p2 >>= fun r10 =>
  F_223 c12 a0 p1 1 >>= fun r11 =>
  ald (cA c12 20 a0) 221 (82 + p2) >>= fun v12 =>
  if v12 < (r10 + r11) then
  some 0
  else
  some 1) : Option (Int32)) >>= fun (t2 : Int32) =>
  zb t2 >>= fun z4 => some z4
set_option maxRecDepth 100000 in
set_option maxHeartbeats 4000000 in
/-- HeadCountsModel.canStep -/
theorem e_260 {D : Nat} {c0 c1 c2 c3 c4 c5 c6 c7 c8 c9 c10 c11 c12 c13 : Cl} {d : Ad} {h : UH} {a0 : Nat} {p1 : Int32} {p2 : Int32} {r : Int32} (hD : 4 ≤ D) (hW : HW (mkw c0 c1 c2 c3 c4 c5 c6 c7 c8 c9 c10 c11 c12 c13) d h) (ha0 : aK d a0 = (0, 12, 0)) (hF : F_260 c12 a0 p1 p2 = some r) : ∃ q, EX D 260 [.ref a0, .int p1, .int p2] h q ∧ q.1 = some (.int r) ∧ h = q.2 := by
  obtain ⟨D, rfl⟩ : ∃ E, D = E + 1 := ⟨D - 1, by omega⟩
  unfold F_260 at hF
  refine ex_in (kl := kl_260) (nL := 3) rfl (by decide +kernel) (Nat.le_of_ble_eq_true rfl) ?_
  obtain ⟨QQ, hQQ⟩ : ∃ QQ : UR → Prop, QQ = (fun q : UR => q.1 = some (.int r) ∧ h = q.2) := ⟨_, rfl⟩
  rw [← hQQ]
  have hQ : QQ (some (.int r), h) := by rw [hQQ]; exact ⟨rfl, rfl⟩
  clear hQQ
  show Ends (EX D) (u_at kl_260) (0, [some (.ref a0), some (.int p1), some (.int p2)], [], h) QQ
  refine en_segs [(0, .aload_n 0, []), (1, .iload_n 1, [])] (by decide +kernel) (y := (2, [some (.ref a0), some (.int p1), some (.int p2)], [.int p1, .ref a0], h)) rfl ?_
  obtain ⟨r1, hr1, hF⟩ := ob_some hF
  refine en_vi (r := []) (by decide +kernel : u_at kl_260 2 = some (.invokevirtual 346, [224, 1, 12])) hW ha0 rfl rfl (Nat.le_of_ble_eq_true rfl) (e_224 (D := D) (by omega) hW ha0 hr1) (fun h' q => ?_)
  subst q
  obtain ⟨t2, hX, hK⟩ := ob_some hF
  have j3 : Ends (EX D) (u_at kl_260) (54, [some (.ref a0), some (.int p1), some (.int p2)], [.int t2], h) QQ := by
    have hF := hK
    obtain ⟨z4, hz4, hF⟩ := ob_some hF
    obtain rfl := Option.some.inj hF
    exact en_retZ (by decide +kernel : u_at kl_260 54 = some (.ireturn, [1])) hz4 (hQ)
  have hF := hX
  refine en_if_eq (by decide +kernel : u_at kl_260 5 = some (.ifCond .eq 48, [53])) (fun b5 => ?_) (fun b5 => ?_)
  · replace hF := i_pos b5 hF
    refine en_segs [(53, .iconst 0, [])] (by decide +kernel) (y := (54, [some (.ref a0), some (.int p1), some (.int p2)], [.int 0], h)) rfl ?_
    obtain rfl := Option.some.inj hF
    exact j3
  · replace hF := i_neg b5 hF
    refine en_segs [(8, .aload_n 0, []), (9, .aload_n 0, [])] (by decide +kernel) (y := (10, [some (.ref a0), some (.int p1), some (.int p2)], [.ref a0, .ref a0], h)) rfl ?_
    refine en_get (by decide +kernel : u_at kl_260 10 = some (.getfield 45, [12, 24])) hW ha0 (by decide) rfl ?_
    refine en_segs [(13, .iload_n 1, [])] (by decide +kernel) (y := (14, [some (.ref a0), some (.int p1), some (.int p2)], [.int p1, .ref (aP d 12 24 a0), .ref a0], h)) rfl ?_
    obtain ⟨v6, hv6, hF⟩ := ob_some hF
    refine en_iald (by decide +kernel : u_at kl_260 14 = some (.iaload, [])) hW ha0 rfl (by decide) hv6 ?_
    obtain ⟨r7, hr7, hF⟩ := ob_some hF
    refine en_vi (r := []) (by decide +kernel : u_at kl_260 15 = some (.invokevirtual 378, [232, 1, 12])) hW ha0 rfl rfl (Nat.le_of_ble_eq_true rfl) (e_232 (D := D) (by omega) hW ha0 hr7) (fun h' q => ?_)
    subst q
    refine en_segs [(18, .iload_n 2, [])] (by decide +kernel) (y := (19, [some (.ref a0), some (.int p1), some (.int p2)], [.int p2, .int r7], h)) rfl ?_
    obtain ⟨r8, hr8, hF⟩ := ob_some hF
    refine en_si (r := []) (by decide +kernel : u_at kl_260 19 = some (.invokestatic 361, [171, 2])) rfl rfl (Nat.le_of_ble_eq_true rfl) (e_171 (D := D) (by omega) hW hr8) (fun h' q => ?_)
    subst q
    refine en_if_eq (by decide +kernel : u_at kl_260 22 = some (.ifCond .eq 31, [53])) (fun b9 => ?_) (fun b9 => ?_)
    · replace hF := i_pos b9 hF
      refine en_segs [(53, .iconst 0, [])] (by decide +kernel) (y := (54, [some (.ref a0), some (.int p1), some (.int p2)], [.int 0], h)) rfl ?_
      obtain rfl := Option.some.inj hF
      exact j3
    · replace hF := i_neg b9 hF
      refine en_segs [(25, .aload_n 0, []), (26, .iload_n 2, [])] (by decide +kernel) (y := (27, [some (.ref a0), some (.int p1), some (.int p2)], [.int p2, .ref a0], h)) rfl ?_
      obtain ⟨r10, hr10, hF⟩ := ob_some hF
      refine en_vi (r := []) (by decide +kernel : u_at kl_260 27 = some (.invokevirtual 437, [258, 1, 12])) hW ha0 rfl rfl (Nat.le_of_ble_eq_true rfl) (e_258 (D := D) (by omega) hW ha0 hr10) (fun h' q => ?_)
      subst q
      refine en_segs [(30, .aload_n 0, []), (31, .iload_n 1, []), (32, .iconst 1, [])] (by decide +kernel) (y := (33, [some (.ref a0), some (.int p1), some (.int p2)], [.int 1, .int p1, .ref a0, .int r10], h)) rfl ?_
      obtain ⟨r11, hr11, hF⟩ := ob_some hF
      refine en_vi (r := [.int r10]) (by decide +kernel : u_at kl_260 33 = some (.invokevirtual 343, [223, 2, 12])) hW ha0 rfl rfl (Nat.le_of_ble_eq_true rfl) (e_223 (D := D) (by omega) hW ha0 hr11) (fun h' q => ?_)
      subst q
      refine en_segs [(36, .iadd, []), (37, .aload_n 0, [])] (by decide +kernel) (y := (38, [some (.ref a0), some (.int p1), some (.int p2)], [.ref a0, .int (r10 + r11)], h)) rfl ?_
      refine en_get (by decide +kernel : u_at kl_260 38 = some (.getfield 39, [12, 20])) hW ha0 (by decide) rfl ?_
      refine en_segs [(41, .bipush 82, []), (43, .iload_n 2, []), (44, .iadd, [])] (by decide +kernel) (y := (45, [some (.ref a0), some (.int p1), some (.int p2)], [.int (82 + p2), .ref (aP d 12 20 a0), .int (r10 + r11)], h)) rfl ?_
      obtain ⟨v12, hv12, hF⟩ := ob_some hF
      refine en_iald (by decide +kernel : u_at kl_260 45 = some (.iaload, [])) hW ha0 rfl (by decide) hv12 ?_
      refine en_ic_gt (by decide +kernel : u_at kl_260 46 = some (.if_icmp .gt 7, [53])) (fun b13 => ?_) (fun b13 => ?_)
      · replace hF := i_pos b13 hF
        refine en_segs [(53, .iconst 0, [])] (by decide +kernel) (y := (54, [some (.ref a0), some (.int p1), some (.int p2)], [.int 0], h)) rfl ?_
        obtain rfl := Option.some.inj hF
        exact j3
      · replace hF := i_neg b13 hF
        refine en_segs [(49, .iconst 1, []), (50, .goto 4, [54])] (by decide +kernel) (y := (54, [some (.ref a0), some (.int p1), some (.int p2)], [.int 1], h)) rfl ?_
        obtain rfl := Option.some.inj hF
        exact j3
def G_261 (c12 : Cl) (a0 : Nat) (lab : Nat) (xs : List Int32) (ys : List Int64) (zs : List Nat) : Option Int32 := match lab, xs, ys, zs with
  | 0, [x1, x2, x3], [], [] =>
    if x2 ≤ x3 then
    some 1
    else
    ald (cA c12 20 a0) 221 (184 + (3 * x3)) >>= fun v2 =>
    if v2 = x1 then
    ald (cA c12 20 a0) 221 ((184 + (3 * x3)) + 1) >>= fun v4 =>
    F_259 c12 a0 v4 >>= fun r5 =>
    ald (cA c12 20 a0) 221 ((184 + (3 * x3)) + 2) >>= fun v6 =>
    if r5 = v6 then
    G_261 c12 a0 0 [x1, x2, x3 + 1] [] []
    else
    some 0
    else
    G_261 c12 a0 0 [x1, x2, x3 + 1] [] []
  | _, _, _, _ => none
partial_fixpoint
set_option maxRecDepth 100000 in
set_option maxHeartbeats 4000000 in
theorem g_261 {D : Nat} (hD : 4 ≤ D + 1) {c0 c1 c2 c3 c4 c5 c6 c7 c8 c9 c10 c11 c12 c13 : Cl} {d : Ad} {a0 : Nat} (ha0 : aK d a0 = (0, 12, 0)) : ∀ (lab : Nat) (xs : List Int32) (ys : List Int64) (zs : List Nat) (r : Int32), G_261 c12 a0 lab xs ys zs = some r →
    (∀ (x1 : Int32) (x2 : Int32) (x3 : Int32), lab = 0 → xs = [x1, x2, x3] → ys = [] → zs = [] → ∀ h : UH, HW (mkw c0 c1 c2 c3 c4 c5 c6 c7 c8 c9 c10 c11 c12 c13) d h → ∀ QQ : UR → Prop, QQ (some (.int r), h) → Ends (EX D) (u_at kl_261) (2, [some (.ref a0), some (.int x1), some (.int x2), some (.int x3), none], [], h) QQ) := by
  refine G_261.partial_correctness _ _ (motive := fun lab xs ys zs r =>
    (∀ (x1 : Int32) (x2 : Int32) (x3 : Int32), lab = 0 → xs = [x1, x2, x3] → ys = [] → zs = [] → ∀ h : UH, HW (mkw c0 c1 c2 c3 c4 c5 c6 c7 c8 c9 c10 c11 c12 c13) d h → ∀ QQ : UR → Prop, QQ (some (.int r), h) → Ends (EX D) (u_at kl_261) (2, [some (.ref a0), some (.int x1), some (.int x2), some (.int x3), none], [], h) QQ)) ?_
  intro G ih lab xs ys zs r hF
  · intro x1 x2 x3 e1 e2 e3 e4 h hW QQ hQ
    subst e1 e2 e3 e4
    refine en_segs [(2, .iload_n 3, []), (3, .iload_n 2, [])] (by decide +kernel) (y := (4, [some (.ref a0), some (.int x1), some (.int x2), some (.int x3), none], [.int x2, .int x3], h)) rfl ?_
    refine en_ic_ge (by decide +kernel : u_at kl_261 4 = some (.if_icmp .ge 56, [60])) (fun b1 => ?_) (fun b1 => ?_)
    · replace hF := i_pos b1 hF
      refine en_segs [(60, .iconst 1, [])] (by decide +kernel) (y := (61, [some (.ref a0), some (.int x1), some (.int x2), some (.int x3), none], [.int 1], h)) rfl ?_
      obtain rfl := Option.some.inj hF
      exact en_ret (by decide +kernel : u_at kl_261 61 = some (.ireturn, [1])) rfl (hQ)
    · replace hF := i_neg b1 hF
      refine en_segs [(7, .sipush 184, []), (10, .iconst 3, []), (11, .iload_n 3, []), (12, .imul, []), (13, .iadd, []), (14, .istore 4, []), (16, .aload_n 0, [])] (by decide +kernel) (y := (17, [some (.ref a0), some (.int x1), some (.int x2), some (.int x3), some (.int (184 + (3 * x3)))], [.ref a0], h)) rfl ?_
      refine en_get (by decide +kernel : u_at kl_261 17 = some (.getfield 39, [12, 20])) hW ha0 (by decide) rfl ?_
      refine en_segs [(20, .iload 4, [])] (by decide +kernel) (y := (22, [some (.ref a0), some (.int x1), some (.int x2), some (.int x3), some (.int (184 + (3 * x3)))], [.int (184 + (3 * x3)), .ref (aP d 12 20 a0)], h)) rfl ?_
      obtain ⟨v2, hv2, hF⟩ := ob_some hF
      refine en_iald (by decide +kernel : u_at kl_261 22 = some (.iaload, [])) hW ha0 rfl (by decide) hv2 ?_
      refine en_segs [(23, .iload_n 1, [])] (by decide +kernel) (y := (24, [some (.ref a0), some (.int x1), some (.int x2), some (.int x3), some (.int (184 + (3 * x3)))], [.int x1, .int v2], h)) rfl ?_
      refine en_ic_ne (by decide +kernel : u_at kl_261 24 = some (.if_icmp .ne 30, [54])) (fun b3 => ?_) (fun b3 => ?_)
      · replace hF := i_pos b3 hF
        refine en_segs [(27, .aload_n 0, []), (28, .aload_n 0, [])] (by decide +kernel) (y := (29, [some (.ref a0), some (.int x1), some (.int x2), some (.int x3), some (.int (184 + (3 * x3)))], [.ref a0, .ref a0], h)) rfl ?_
        refine en_get (by decide +kernel : u_at kl_261 29 = some (.getfield 39, [12, 20])) hW ha0 (by decide) rfl ?_
        refine en_segs [(32, .iload 4, []), (34, .iconst 1, []), (35, .iadd, [])] (by decide +kernel) (y := (36, [some (.ref a0), some (.int x1), some (.int x2), some (.int x3), some (.int (184 + (3 * x3)))], [.int ((184 + (3 * x3)) + 1), .ref (aP d 12 20 a0), .ref a0], h)) rfl ?_
        obtain ⟨v4, hv4, hF⟩ := ob_some hF
        refine en_iald (by decide +kernel : u_at kl_261 36 = some (.iaload, [])) hW ha0 rfl (by decide) hv4 ?_
        obtain ⟨r5, hr5, hF⟩ := ob_some hF
        refine en_vi (r := []) (by decide +kernel : u_at kl_261 37 = some (.invokevirtual 440, [259, 1, 12])) hW ha0 rfl rfl (Nat.le_of_ble_eq_true rfl) (e_259 (D := D) (by omega) hW ha0 hr5) (fun h' q => ?_)
        subst q
        refine en_segs [(40, .aload_n 0, [])] (by decide +kernel) (y := (41, [some (.ref a0), some (.int x1), some (.int x2), some (.int x3), some (.int (184 + (3 * x3)))], [.ref a0, .int r5], h)) rfl ?_
        refine en_get (by decide +kernel : u_at kl_261 41 = some (.getfield 39, [12, 20])) hW ha0 (by decide) rfl ?_
        refine en_segs [(44, .iload 4, []), (46, .iconst 2, []), (47, .iadd, [])] (by decide +kernel) (y := (48, [some (.ref a0), some (.int x1), some (.int x2), some (.int x3), some (.int (184 + (3 * x3)))], [.int ((184 + (3 * x3)) + 2), .ref (aP d 12 20 a0), .int r5], h)) rfl ?_
        obtain ⟨v6, hv6, hF⟩ := ob_some hF
        refine en_iald (by decide +kernel : u_at kl_261 48 = some (.iaload, [])) hW ha0 rfl (by decide) hv6 ?_
        refine en_ic_eq (by decide +kernel : u_at kl_261 49 = some (.if_icmp .eq 5, [54])) (fun b7 => ?_) (fun b7 => ?_)
        · replace hF := i_pos b7 hF
          refine en_segs [(54, .iinc 3 1, []), (57, .goto (-55), [2])] (by decide +kernel) (y := (2, [some (.ref a0), some (.int x1), some (.int x2), some (.int (x3 + 1)), some (.int (184 + (3 * x3)))], [], h)) rfl ?_
          refine en_fg (fg_k (fg_k (fg_k (fg_k (fg_d fg_0))))) ?_
          exact (ih _ _ _ _ _ hF) _ _ _ rfl rfl rfl rfl  _ hW _ hQ
        · replace hF := i_neg b7 hF
          refine en_segs [(52, .iconst 0, [])] (by decide +kernel) (y := (53, [some (.ref a0), some (.int x1), some (.int x2), some (.int x3), some (.int (184 + (3 * x3)))], [.int 0], h)) rfl ?_
          obtain rfl := Option.some.inj hF
          exact en_ret (by decide +kernel : u_at kl_261 53 = some (.ireturn, [1])) rfl (hQ)
      · replace hF := i_neg b3 hF
        refine en_segs [(54, .iinc 3 1, []), (57, .goto (-55), [2])] (by decide +kernel) (y := (2, [some (.ref a0), some (.int x1), some (.int x2), some (.int (x3 + 1)), some (.int (184 + (3 * x3)))], [], h)) rfl ?_
        refine en_fg (fg_k (fg_k (fg_k (fg_k (fg_d fg_0))))) ?_
        exact (ih _ _ _ _ _ hF) _ _ _ rfl rfl rfl rfl  _ hW _ hQ
def F_261 (c12 : Cl) (a0 : Nat) (p1 : Int32) (p2 : Int32) : Option Int32 :=
  G_261 c12 a0 0 [p1, p2, 0] [] []
set_option maxRecDepth 100000 in
set_option maxHeartbeats 4000000 in
/-- HeadCountsModel.isAsTold -/
theorem e_261 {D : Nat} {c0 c1 c2 c3 c4 c5 c6 c7 c8 c9 c10 c11 c12 c13 : Cl} {d : Ad} {h : UH} {a0 : Nat} {p1 : Int32} {p2 : Int32} {r : Int32} (hD : 4 ≤ D) (hW : HW (mkw c0 c1 c2 c3 c4 c5 c6 c7 c8 c9 c10 c11 c12 c13) d h) (ha0 : aK d a0 = (0, 12, 0)) (hF : F_261 c12 a0 p1 p2 = some r) : ∃ q, EX D 261 [.ref a0, .int p1, .int p2] h q ∧ q.1 = some (.int r) ∧ h = q.2 := by
  obtain ⟨D, rfl⟩ : ∃ E, D = E + 1 := ⟨D - 1, by omega⟩
  unfold F_261 at hF
  refine ex_in (kl := kl_261) (nL := 5) rfl (by decide +kernel) (Nat.le_of_ble_eq_true rfl) ?_
  obtain ⟨QQ, hQQ⟩ : ∃ QQ : UR → Prop, QQ = (fun q : UR => q.1 = some (.int r) ∧ h = q.2) := ⟨_, rfl⟩
  rw [← hQQ]
  have hQ : QQ (some (.int r), h) := by rw [hQQ]; exact ⟨rfl, rfl⟩
  clear hQQ
  show Ends (EX D) (u_at kl_261) (0, [some (.ref a0), some (.int p1), some (.int p2), none, none], [], h) QQ
  refine en_segs [(0, .iconst 0, []), (1, .istore_n 3, [])] (by decide +kernel) (y := (2, [some (.ref a0), some (.int p1), some (.int p2), some (.int 0), none], [], h)) rfl ?_
  exact (g_261 (D := D) hD (d := d) ha0 _ _ _ _ _ hF) _ _ _ rfl rfl rfl rfl  _ hW _ hQ
def G_262 (a0 : Nat) (lab : Nat) (xs : List Int32) (ys : List Int64) (zs : List Nat) (c12 : Cl) : Option Cl := match lab, xs, ys, zs with
  | 0, [x1], [], [] =>
    if 46656 ≤ x1 then
    G_262 a0 1 [0] [] [] c12
    else
    ldl (cB c12 26 a0) 46656 x1 >>= fun v2 =>
    stl c12 27 a0 46656 x1 v2 >>= fun c12_3 =>
    G_262 a0 0 [x1 + 1] [] [] c12_3
  | 1, [x1], [], [] =>
    if 46656 ≤ x1 then
    G_262 a0 4 [0] [] [] c12
    else
    ldl (cB c12 26 a0) 46656 x1 >>= fun v5 =>
    if (lg_cmp v5 0) = 0 then
    G_262 a0 1 [x1 + 1] [] [] c12
    else
    F_255 c12 a0 x1 >>= fun r7 =>
    G_262 a0 2 [x1, 0] [] [] r7
  | 2, [x1, x2], [], [] =>
    ald (cA c12 20 a0) 221 2 >>= fun v11 =>
    if v11 ≤ x2 then
    G_262 a0 1 [x1 + 1] [] [] c12
    else
    G_262 a0 3 [x1, x2, 0] [] [] c12
  | 3, [x1, x2, x3], [], [] =>
    ald (cA c12 20 a0) 221 0 >>= fun v13 =>
    if v13 ≤ x3 then
    G_262 a0 2 [x1, x2 + 1] [] [] c12
    else
    F_260 c12 a0 x2 x3 >>= fun r15 =>
    ((if r15 = 0 then
    some c12
    else
    ald (cA c12 25 a0) 6 x2 >>= fun v19 =>
    ald (cA c12 24 a0) 6 x2 >>= fun v20 =>
    ldl (cB c12 27 a0) 46656 (x1 + (v19 * (x3 - v20))) >>= fun v21 =>
    ldl (cB c12 26 a0) 46656 x1 >>= fun v22 =>
    stl c12 27 a0 46656 (x1 + (v19 * (x3 - v20))) (v21 + v22) >>= fun c12_23 =>
    some c12_23) : Option (Cl)) >>= fun (t16 : Cl) =>
    G_262 a0 3 [x1, x2, x3 + 1] [] [] t16
  | 4, [x1], [], [] =>
    if 46656 ≤ x1 then
    some c12
    else
    ldl (cB c12 27 a0) 46656 x1 >>= fun v9 =>
    stl c12 26 a0 46656 x1 v9 >>= fun c12_10 =>
    G_262 a0 4 [x1 + 1] [] [] c12_10
  | _, _, _, _ => none
partial_fixpoint
set_option maxRecDepth 100000 in
set_option maxHeartbeats 4000000 in
theorem g_262 {D : Nat} (hD : 5 ≤ D + 1) {c0 c1 c2 c3 c4 c5 c6 c7 c8 c9 c10 c11 c13 : Cl} {d : Ad} {a0 : Nat} (ha0 : aK d a0 = (0, 12, 0)) : ∀ (lab : Nat) (xs : List Int32) (ys : List Int64) (zs : List Nat) (c12 : Cl) (r : Cl), G_262 a0 lab xs ys zs c12 = some r →
    (∀ (x1 : Int32), lab = 0 → xs = [x1] → ys = [] → zs = [] → ∀ h : UH, HW (mkw c0 c1 c2 c3 c4 c5 c6 c7 c8 c9 c10 c11 c12 c13) d h → ∀ QQ : UR → Prop, (∀ h' : UH, HW (mkw c0 c1 c2 c3 c4 c5 c6 c7 c8 c9 c10 c11 r c13) d h' → QQ (none, h')) → Ends (EX D) (u_at kl_262) (2, [some (.ref a0), some (.int x1), none, none], [], h) QQ) ∧
    (∀ (x1 : Int32), lab = 1 → xs = [x1] → ys = [] → zs = [] → ∀ h : UH, HW (mkw c0 c1 c2 c3 c4 c5 c6 c7 c8 c9 c10 c11 c12 c13) d h → ∀ QQ : UR → Prop, (∀ h' : UH, HW (mkw c0 c1 c2 c3 c4 c5 c6 c7 c8 c9 c10 c11 r c13) d h' → QQ (none, h')) → Ends (EX D) (u_at kl_262) (28, [some (.ref a0), some (.int x1), none, none], [], h) QQ) ∧
    (∀ (x1 : Int32) (x2 : Int32), lab = 2 → xs = [x1, x2] → ys = [] → zs = [] → ∀ h : UH, HW (mkw c0 c1 c2 c3 c4 c5 c6 c7 c8 c9 c10 c11 c12 c13) d h → ∀ QQ : UR → Prop, (∀ h' : UH, HW (mkw c0 c1 c2 c3 c4 c5 c6 c7 c8 c9 c10 c11 r c13) d h' → QQ (none, h')) → Ends (EX D) (u_at kl_262) (55, [some (.ref a0), some (.int x1), some (.int x2), none], [], h) QQ) ∧
    (∀ (x1 : Int32) (x2 : Int32) (x3 : Int32), lab = 3 → xs = [x1, x2, x3] → ys = [] → zs = [] → ∀ h : UH, HW (mkw c0 c1 c2 c3 c4 c5 c6 c7 c8 c9 c10 c11 c12 c13) d h → ∀ QQ : UR → Prop, (∀ h' : UH, HW (mkw c0 c1 c2 c3 c4 c5 c6 c7 c8 c9 c10 c11 r c13) d h' → QQ (none, h')) → Ends (EX D) (u_at kl_262) (67, [some (.ref a0), some (.int x1), some (.int x2), some (.int x3)], [], h) QQ) ∧
    (∀ (x1 : Int32), lab = 4 → xs = [x1] → ys = [] → zs = [] → ∀ h : UH, HW (mkw c0 c1 c2 c3 c4 c5 c6 c7 c8 c9 c10 c11 c12 c13) d h → ∀ QQ : UR → Prop, (∀ h' : UH, HW (mkw c0 c1 c2 c3 c4 c5 c6 c7 c8 c9 c10 c11 r c13) d h' → QQ (none, h')) → Ends (EX D) (u_at kl_262) (137, [some (.ref a0), some (.int x1), none, none], [], h) QQ) := by
  refine G_262.partial_correctness _ (motive := fun lab xs ys zs c12 r =>
    (∀ (x1 : Int32), lab = 0 → xs = [x1] → ys = [] → zs = [] → ∀ h : UH, HW (mkw c0 c1 c2 c3 c4 c5 c6 c7 c8 c9 c10 c11 c12 c13) d h → ∀ QQ : UR → Prop, (∀ h' : UH, HW (mkw c0 c1 c2 c3 c4 c5 c6 c7 c8 c9 c10 c11 r c13) d h' → QQ (none, h')) → Ends (EX D) (u_at kl_262) (2, [some (.ref a0), some (.int x1), none, none], [], h) QQ) ∧
    (∀ (x1 : Int32), lab = 1 → xs = [x1] → ys = [] → zs = [] → ∀ h : UH, HW (mkw c0 c1 c2 c3 c4 c5 c6 c7 c8 c9 c10 c11 c12 c13) d h → ∀ QQ : UR → Prop, (∀ h' : UH, HW (mkw c0 c1 c2 c3 c4 c5 c6 c7 c8 c9 c10 c11 r c13) d h' → QQ (none, h')) → Ends (EX D) (u_at kl_262) (28, [some (.ref a0), some (.int x1), none, none], [], h) QQ) ∧
    (∀ (x1 : Int32) (x2 : Int32), lab = 2 → xs = [x1, x2] → ys = [] → zs = [] → ∀ h : UH, HW (mkw c0 c1 c2 c3 c4 c5 c6 c7 c8 c9 c10 c11 c12 c13) d h → ∀ QQ : UR → Prop, (∀ h' : UH, HW (mkw c0 c1 c2 c3 c4 c5 c6 c7 c8 c9 c10 c11 r c13) d h' → QQ (none, h')) → Ends (EX D) (u_at kl_262) (55, [some (.ref a0), some (.int x1), some (.int x2), none], [], h) QQ) ∧
    (∀ (x1 : Int32) (x2 : Int32) (x3 : Int32), lab = 3 → xs = [x1, x2, x3] → ys = [] → zs = [] → ∀ h : UH, HW (mkw c0 c1 c2 c3 c4 c5 c6 c7 c8 c9 c10 c11 c12 c13) d h → ∀ QQ : UR → Prop, (∀ h' : UH, HW (mkw c0 c1 c2 c3 c4 c5 c6 c7 c8 c9 c10 c11 r c13) d h' → QQ (none, h')) → Ends (EX D) (u_at kl_262) (67, [some (.ref a0), some (.int x1), some (.int x2), some (.int x3)], [], h) QQ) ∧
    (∀ (x1 : Int32), lab = 4 → xs = [x1] → ys = [] → zs = [] → ∀ h : UH, HW (mkw c0 c1 c2 c3 c4 c5 c6 c7 c8 c9 c10 c11 c12 c13) d h → ∀ QQ : UR → Prop, (∀ h' : UH, HW (mkw c0 c1 c2 c3 c4 c5 c6 c7 c8 c9 c10 c11 r c13) d h' → QQ (none, h')) → Ends (EX D) (u_at kl_262) (137, [some (.ref a0), some (.int x1), none, none], [], h) QQ)) ?_
  intro G ih lab xs ys zs c12 r hF
  refine ⟨?_, ?_, ?_, ?_, ?_⟩
  · intro x1 e1 e2 e3 e4 h hW QQ hQ
    subst e1 e2 e3 e4
    refine en_segs [(2, .iload_n 1, []), (3, .ldc 51, [46656])] (by decide +kernel) (y := (5, [some (.ref a0), some (.int x1), none, none], [.int 46656, .int x1], h)) rfl ?_
    refine en_ic_ge (by decide +kernel : u_at kl_262 5 = some (.if_icmp .ge 21, [26])) (fun b1 => ?_) (fun b1 => ?_)
    · replace hF := i_pos b1 hF
      refine en_segs [(26, .iconst 0, []), (27, .istore_n 1, [])] (by decide +kernel) (y := (28, [some (.ref a0), some (.int 0), none, none], [], h)) rfl ?_
      exact (ih _ _ _ _ _ _ hF).2.1 _ rfl rfl rfl rfl  _ hW _ hQ
    · replace hF := i_neg b1 hF
      refine en_segs [(8, .aload_n 0, [])] (by decide +kernel) (y := (9, [some (.ref a0), some (.int x1), none, none], [.ref a0], h)) rfl ?_
      refine en_get (by decide +kernel : u_at kl_262 9 = some (.getfield 55, [12, 27])) hW ha0 (by decide) rfl ?_
      refine en_segs [(12, .iload_n 1, []), (13, .aload_n 0, [])] (by decide +kernel) (y := (14, [some (.ref a0), some (.int x1), none, none], [.ref a0, .int x1, .ref (aP d 12 27 a0)], h)) rfl ?_
      refine en_get (by decide +kernel : u_at kl_262 14 = some (.getfield 52, [12, 26])) hW ha0 (by decide) rfl ?_
      refine en_segs [(17, .iload_n 1, [])] (by decide +kernel) (y := (18, [some (.ref a0), some (.int x1), none, none], [.int x1, .ref (aP d 12 26 a0), .int x1, .ref (aP d 12 27 a0)], h)) rfl ?_
      obtain ⟨v2, hv2, hF⟩ := ob_some hF
      refine en_lald (by decide +kernel : u_at kl_262 18 = some (.laload, [])) hW ha0 rfl (by decide) hv2 ?_
      obtain ⟨c12_3, hc12_3, hF⟩ := ob_some hF
      refine en_last (by decide +kernel : u_at kl_262 19 = some (.lastore, [])) hW ha0 rfl (by decide) hc12_3 (fun h hW => ?_)
      have hW : HW (mkw c0 c1 c2 c3 c4 c5 c6 c7 c8 c9 c10 c11 c12_3 c13) d h := hW
      refine en_segs [(20, .iinc 1 1, []), (23, .goto (-21), [2])] (by decide +kernel) (y := (2, [some (.ref a0), some (.int (x1 + 1)), none, none], [], h)) rfl ?_
      exact (ih _ _ _ _ _ _ hF).1 _ rfl rfl rfl rfl  _ hW _ hQ
  · intro x1 e1 e2 e3 e4 h hW QQ hQ
    subst e1 e2 e3 e4
    refine en_segs [(28, .iload_n 1, []), (29, .ldc 51, [46656])] (by decide +kernel) (y := (31, [some (.ref a0), some (.int x1), none, none], [.int 46656, .int x1], h)) rfl ?_
    refine en_ic_ge (by decide +kernel : u_at kl_262 31 = some (.if_icmp .ge 104, [135])) (fun b4 => ?_) (fun b4 => ?_)
    · replace hF := i_pos b4 hF
      refine en_segs [(135, .iconst 0, []), (136, .istore_n 1, [])] (by decide +kernel) (y := (137, [some (.ref a0), some (.int 0), none, none], [], h)) rfl ?_
      exact (ih _ _ _ _ _ _ hF).2.2.2.2 _ rfl rfl rfl rfl  _ hW _ hQ
    · replace hF := i_neg b4 hF
      refine en_segs [(34, .aload_n 0, [])] (by decide +kernel) (y := (35, [some (.ref a0), some (.int x1), none, none], [.ref a0], h)) rfl ?_
      refine en_get (by decide +kernel : u_at kl_262 35 = some (.getfield 52, [12, 26])) hW ha0 (by decide) rfl ?_
      refine en_segs [(38, .iload_n 1, [])] (by decide +kernel) (y := (39, [some (.ref a0), some (.int x1), none, none], [.int x1, .ref (aP d 12 26 a0)], h)) rfl ?_
      obtain ⟨v5, hv5, hF⟩ := ob_some hF
      refine en_lald (by decide +kernel : u_at kl_262 39 = some (.laload, [])) hW ha0 rfl (by decide) hv5 ?_
      refine en_segs [(40, .lconst 0, []), (41, .lcmp, [])] (by decide +kernel) (y := (42, [some (.ref a0), some (.int x1), none, none], [.int (lg_cmp v5 0)], h)) rfl ?_
      refine en_if_ne (by decide +kernel : u_at kl_262 42 = some (.ifCond .ne 6, [48])) (fun b6 => ?_) (fun b6 => ?_)
      · replace hF := i_pos b6 hF
        refine en_segs [(45, .goto 84, [129]), (129, .iinc 1 1, []), (132, .goto (-104), [28])] (by decide +kernel) (y := (28, [some (.ref a0), some (.int (x1 + 1)), none, none], [], h)) rfl ?_
        exact (ih _ _ _ _ _ _ hF).2.1 _ rfl rfl rfl rfl  _ hW _ hQ
      · replace hF := i_neg b6 hF
        refine en_segs [(48, .aload_n 0, []), (49, .iload_n 1, [])] (by decide +kernel) (y := (50, [some (.ref a0), some (.int x1), none, none], [.int x1, .ref a0], h)) rfl ?_
        obtain ⟨r7, hr7, hF⟩ := ob_some hF
        refine en_vv (r := []) (by decide +kernel : u_at kl_262 50 = some (.invokevirtual 434, [255, 1, 12])) hW ha0 rfl rfl (Nat.le_of_ble_eq_true rfl) (e_255 (D := D) (by omega) hW ha0 hr7) (fun h hW => ?_)
        have hW : HW (mkw c0 c1 c2 c3 c4 c5 c6 c7 c8 c9 c10 c11 r7 c13) d h := hW
        refine en_segs [(53, .iconst 0, []), (54, .istore_n 2, [])] (by decide +kernel) (y := (55, [some (.ref a0), some (.int x1), some (.int 0), none], [], h)) rfl ?_
        exact (ih _ _ _ _ _ _ hF).2.2.1 _ _ rfl rfl rfl rfl  _ hW _ hQ
  · intro x1 x2 e1 e2 e3 e4 h hW QQ hQ
    subst e1 e2 e3 e4
    refine en_segs [(55, .iload_n 2, []), (56, .aload_n 0, [])] (by decide +kernel) (y := (57, [some (.ref a0), some (.int x1), some (.int x2), none], [.ref a0, .int x2], h)) rfl ?_
    refine en_get (by decide +kernel : u_at kl_262 57 = some (.getfield 39, [12, 20])) hW ha0 (by decide) rfl ?_
    refine en_segs [(60, .iconst 2, [])] (by decide +kernel) (y := (61, [some (.ref a0), some (.int x1), some (.int x2), none], [.int 2, .ref (aP d 12 20 a0), .int x2], h)) rfl ?_
    obtain ⟨v11, hv11, hF⟩ := ob_some hF
    refine en_iald (by decide +kernel : u_at kl_262 61 = some (.iaload, [])) hW ha0 rfl (by decide) hv11 ?_
    refine en_ic_ge (by decide +kernel : u_at kl_262 62 = some (.if_icmp .ge 67, [129])) (fun b12 => ?_) (fun b12 => ?_)
    · replace hF := i_pos b12 hF
      refine en_segs [(129, .iinc 1 1, []), (132, .goto (-104), [28])] (by decide +kernel) (y := (28, [some (.ref a0), some (.int (x1 + 1)), some (.int x2), none], [], h)) rfl ?_
      refine en_fg (fg_k (fg_k (fg_d (fg_k fg_0)))) ?_
      exact (ih _ _ _ _ _ _ hF).2.1 _ rfl rfl rfl rfl  _ hW _ hQ
    · replace hF := i_neg b12 hF
      refine en_segs [(65, .iconst 0, []), (66, .istore_n 3, [])] (by decide +kernel) (y := (67, [some (.ref a0), some (.int x1), some (.int x2), some (.int 0)], [], h)) rfl ?_
      exact (ih _ _ _ _ _ _ hF).2.2.2.1 _ _ _ rfl rfl rfl rfl  _ hW _ hQ
  · intro x1 x2 x3 e1 e2 e3 e4 h hW QQ hQ
    subst e1 e2 e3 e4
    refine en_segs [(67, .iload_n 3, []), (68, .aload_n 0, [])] (by decide +kernel) (y := (69, [some (.ref a0), some (.int x1), some (.int x2), some (.int x3)], [.ref a0, .int x3], h)) rfl ?_
    refine en_get (by decide +kernel : u_at kl_262 69 = some (.getfield 39, [12, 20])) hW ha0 (by decide) rfl ?_
    refine en_segs [(72, .iconst 0, [])] (by decide +kernel) (y := (73, [some (.ref a0), some (.int x1), some (.int x2), some (.int x3)], [.int 0, .ref (aP d 12 20 a0), .int x3], h)) rfl ?_
    obtain ⟨v13, hv13, hF⟩ := ob_some hF
    refine en_iald (by decide +kernel : u_at kl_262 73 = some (.iaload, [])) hW ha0 rfl (by decide) hv13 ?_
    refine en_ic_ge (by decide +kernel : u_at kl_262 74 = some (.if_icmp .ge 49, [123])) (fun b14 => ?_) (fun b14 => ?_)
    · replace hF := i_pos b14 hF
      refine en_segs [(123, .iinc 2 1, []), (126, .goto (-71), [55])] (by decide +kernel) (y := (55, [some (.ref a0), some (.int x1), some (.int (x2 + 1)), some (.int x3)], [], h)) rfl ?_
      refine en_fg (fg_k (fg_k (fg_k (fg_d fg_0)))) ?_
      exact (ih _ _ _ _ _ _ hF).2.2.1 _ _ rfl rfl rfl rfl  _ hW _ hQ
    · replace hF := i_neg b14 hF
      refine en_segs [(77, .aload_n 0, []), (78, .iload_n 2, []), (79, .iload_n 3, [])] (by decide +kernel) (y := (80, [some (.ref a0), some (.int x1), some (.int x2), some (.int x3)], [.int x3, .int x2, .ref a0], h)) rfl ?_
      obtain ⟨r15, hr15, hF⟩ := ob_some hF
      refine en_vi (r := []) (by decide +kernel : u_at kl_262 80 = some (.invokevirtual 443, [260, 2, 12])) hW ha0 rfl rfl (Nat.le_of_ble_eq_true rfl) (e_260 (D := D) (by omega) hW ha0 hr15) (fun h' q => ?_)
      subst q
      obtain ⟨t16, hX, hK⟩ := ob_some hF
      have j17 : ∀ h : UH, HW (mkw c0 c1 c2 c3 c4 c5 c6 c7 c8 c9 c10 c11 t16 c13) d h → Ends (EX D) (u_at kl_262) (117, [some (.ref a0), some (.int x1), some (.int x2), some (.int x3)], [], h) QQ := by
        intro h hW
        have hF := hK
        refine en_segs [(117, .iinc 3 1, []), (120, .goto (-53), [67])] (by decide +kernel) (y := (67, [some (.ref a0), some (.int x1), some (.int x2), some (.int (x3 + 1))], [], h)) rfl ?_
        exact (ih _ _ _ _ _ _ hF).2.2.2.1 _ _ _ rfl rfl rfl rfl  _ hW _ hQ
      have hF := hX
      refine en_if_eq (by decide +kernel : u_at kl_262 83 = some (.ifCond .eq 34, [117])) (fun b18 => ?_) (fun b18 => ?_)
      · replace hF := i_pos b18 hF
        obtain rfl := Option.some.inj hF
        exact j17 _ hW
      · replace hF := i_neg b18 hF
        refine en_segs [(86, .aload_n 0, [])] (by decide +kernel) (y := (87, [some (.ref a0), some (.int x1), some (.int x2), some (.int x3)], [.ref a0], h)) rfl ?_
        refine en_get (by decide +kernel : u_at kl_262 87 = some (.getfield 55, [12, 27])) hW ha0 (by decide) rfl ?_
        refine en_segs [(90, .iload_n 1, []), (91, .aload_n 0, [])] (by decide +kernel) (y := (92, [some (.ref a0), some (.int x1), some (.int x2), some (.int x3)], [.ref a0, .int x1, .ref (aP d 12 27 a0)], h)) rfl ?_
        refine en_get (by decide +kernel : u_at kl_262 92 = some (.getfield 48, [12, 25])) hW ha0 (by decide) rfl ?_
        refine en_segs [(95, .iload_n 2, [])] (by decide +kernel) (y := (96, [some (.ref a0), some (.int x1), some (.int x2), some (.int x3)], [.int x2, .ref (aP d 12 25 a0), .int x1, .ref (aP d 12 27 a0)], h)) rfl ?_
        obtain ⟨v19, hv19, hF⟩ := ob_some hF
        refine en_iald (by decide +kernel : u_at kl_262 96 = some (.iaload, [])) hW ha0 rfl (by decide) hv19 ?_
        refine en_segs [(97, .iload_n 3, []), (98, .aload_n 0, [])] (by decide +kernel) (y := (99, [some (.ref a0), some (.int x1), some (.int x2), some (.int x3)], [.ref a0, .int x3, .int v19, .int x1, .ref (aP d 12 27 a0)], h)) rfl ?_
        refine en_get (by decide +kernel : u_at kl_262 99 = some (.getfield 45, [12, 24])) hW ha0 (by decide) rfl ?_
        refine en_segs [(102, .iload_n 2, [])] (by decide +kernel) (y := (103, [some (.ref a0), some (.int x1), some (.int x2), some (.int x3)], [.int x2, .ref (aP d 12 24 a0), .int x3, .int v19, .int x1, .ref (aP d 12 27 a0)], h)) rfl ?_
        obtain ⟨v20, hv20, hF⟩ := ob_some hF
        refine en_iald (by decide +kernel : u_at kl_262 103 = some (.iaload, [])) hW ha0 rfl (by decide) hv20 ?_
        refine en_segs [(104, .isub, []), (105, .imul, []), (106, .iadd, []), (107, .dup2, [])] (by decide +kernel) (y := (108, [some (.ref a0), some (.int x1), some (.int x2), some (.int x3)], [.int (x1 + (v19 * (x3 - v20))), .ref (aP d 12 27 a0), .int (x1 + (v19 * (x3 - v20))), .ref (aP d 12 27 a0)], h)) rfl ?_
        obtain ⟨v21, hv21, hF⟩ := ob_some hF
        refine en_lald (by decide +kernel : u_at kl_262 108 = some (.laload, [])) hW ha0 rfl (by decide) hv21 ?_
        refine en_segs [(109, .aload_n 0, [])] (by decide +kernel) (y := (110, [some (.ref a0), some (.int x1), some (.int x2), some (.int x3)], [.ref a0, .long v21, .int (x1 + (v19 * (x3 - v20))), .ref (aP d 12 27 a0)], h)) rfl ?_
        refine en_get (by decide +kernel : u_at kl_262 110 = some (.getfield 52, [12, 26])) hW ha0 (by decide) rfl ?_
        refine en_segs [(113, .iload_n 1, [])] (by decide +kernel) (y := (114, [some (.ref a0), some (.int x1), some (.int x2), some (.int x3)], [.int x1, .ref (aP d 12 26 a0), .long v21, .int (x1 + (v19 * (x3 - v20))), .ref (aP d 12 27 a0)], h)) rfl ?_
        obtain ⟨v22, hv22, hF⟩ := ob_some hF
        refine en_lald (by decide +kernel : u_at kl_262 114 = some (.laload, [])) hW ha0 rfl (by decide) hv22 ?_
        refine en_segs [(115, .ladd, [])] (by decide +kernel) (y := (116, [some (.ref a0), some (.int x1), some (.int x2), some (.int x3)], [.long (v21 + v22), .int (x1 + (v19 * (x3 - v20))), .ref (aP d 12 27 a0)], h)) rfl ?_
        obtain ⟨c12_23, hc12_23, hF⟩ := ob_some hF
        refine en_last (by decide +kernel : u_at kl_262 116 = some (.lastore, [])) hW ha0 rfl (by decide) hc12_23 (fun h hW => ?_)
        have hW : HW (mkw c0 c1 c2 c3 c4 c5 c6 c7 c8 c9 c10 c11 c12_23 c13) d h := hW
        obtain rfl := Option.some.inj hF
        exact j17 _ hW
  · intro x1 e1 e2 e3 e4 h hW QQ hQ
    subst e1 e2 e3 e4
    refine en_segs [(137, .iload_n 1, []), (138, .ldc 51, [46656])] (by decide +kernel) (y := (140, [some (.ref a0), some (.int x1), none, none], [.int 46656, .int x1], h)) rfl ?_
    refine en_ic_ge (by decide +kernel : u_at kl_262 140 = some (.if_icmp .ge 21, [161])) (fun b8 => ?_) (fun b8 => ?_)
    · replace hF := i_pos b8 hF
      obtain rfl := Option.some.inj hF
      exact en_ret (by decide +kernel : u_at kl_262 161 = some (.return_, [])) rfl (hQ _ hW)
    · replace hF := i_neg b8 hF
      refine en_segs [(143, .aload_n 0, [])] (by decide +kernel) (y := (144, [some (.ref a0), some (.int x1), none, none], [.ref a0], h)) rfl ?_
      refine en_get (by decide +kernel : u_at kl_262 144 = some (.getfield 52, [12, 26])) hW ha0 (by decide) rfl ?_
      refine en_segs [(147, .iload_n 1, []), (148, .aload_n 0, [])] (by decide +kernel) (y := (149, [some (.ref a0), some (.int x1), none, none], [.ref a0, .int x1, .ref (aP d 12 26 a0)], h)) rfl ?_
      refine en_get (by decide +kernel : u_at kl_262 149 = some (.getfield 55, [12, 27])) hW ha0 (by decide) rfl ?_
      refine en_segs [(152, .iload_n 1, [])] (by decide +kernel) (y := (153, [some (.ref a0), some (.int x1), none, none], [.int x1, .ref (aP d 12 27 a0), .int x1, .ref (aP d 12 26 a0)], h)) rfl ?_
      obtain ⟨v9, hv9, hF⟩ := ob_some hF
      refine en_lald (by decide +kernel : u_at kl_262 153 = some (.laload, [])) hW ha0 rfl (by decide) hv9 ?_
      obtain ⟨c12_10, hc12_10, hF⟩ := ob_some hF
      refine en_last (by decide +kernel : u_at kl_262 154 = some (.lastore, [])) hW ha0 rfl (by decide) hc12_10 (fun h hW => ?_)
      have hW : HW (mkw c0 c1 c2 c3 c4 c5 c6 c7 c8 c9 c10 c11 c12_10 c13) d h := hW
      refine en_segs [(155, .iinc 1 1, []), (158, .goto (-21), [137])] (by decide +kernel) (y := (137, [some (.ref a0), some (.int (x1 + 1)), none, none], [], h)) rfl ?_
      exact (ih _ _ _ _ _ _ hF).2.2.2.2 _ rfl rfl rfl rfl  _ hW _ hQ
def F_262 (c12 : Cl) (a0 : Nat) : Option Cl :=
  G_262 a0 0 [0] [] [] c12
set_option maxRecDepth 100000 in
set_option maxHeartbeats 4000000 in
/-- HeadCountsModel.movesOn -/
theorem e_262 {D : Nat} {c0 c1 c2 c3 c4 c5 c6 c7 c8 c9 c10 c11 c12 c13 : Cl} {d : Ad} {h : UH} {a0 : Nat} {r : Cl} (hD : 5 ≤ D) (hW : HW (mkw c0 c1 c2 c3 c4 c5 c6 c7 c8 c9 c10 c11 c12 c13) d h) (ha0 : aK d a0 = (0, 12, 0)) (hF : F_262 c12 a0 = some r) : ∃ q, EX D 262 [.ref a0] h q ∧ q.1 = none ∧ HW (mkw c0 c1 c2 c3 c4 c5 c6 c7 c8 c9 c10 c11 r c13) d q.2 := by
  obtain ⟨D, rfl⟩ : ∃ E, D = E + 1 := ⟨D - 1, by omega⟩
  unfold F_262 at hF
  refine ex_in (kl := kl_262) (nL := 4) rfl (by decide +kernel) (Nat.le_of_ble_eq_true rfl) ?_
  obtain ⟨QQ, hQQ⟩ : ∃ QQ : UR → Prop, QQ = (fun q : UR => q.1 = none ∧ HW (mkw c0 c1 c2 c3 c4 c5 c6 c7 c8 c9 c10 c11 r c13) d q.2) := ⟨_, rfl⟩
  rw [← hQQ]
  have hQ : ∀ h' : UH, HW (mkw c0 c1 c2 c3 c4 c5 c6 c7 c8 c9 c10 c11 r c13) d h' → QQ (none, h') := fun h' p => by rw [hQQ]; exact ⟨rfl, p⟩
  clear hQQ
  show Ends (EX D) (u_at kl_262) (0, [some (.ref a0), none, none, none], [], h) QQ
  refine en_segs [(0, .iconst 0, []), (1, .istore_n 1, [])] (by decide +kernel) (y := (2, [some (.ref a0), some (.int 0), none, none], [], h)) rfl ?_
  exact (g_262 (D := D) hD (d := d) ha0 _ _ _ _ _ _ hF).1 _ rfl rfl rfl rfl  _ hW _ hQ
def G_263 (a0 : Nat) (lab : Nat) (xs : List Int32) (ys : List Int64) (zs : List Nat) (c12 : Cl) : Option (Int64 × Cl) := match lab, xs, ys, zs with
  | 0, [x1, x2, x3], [], [] =>
    if x1 ≤ x3 then
    G_263 a0 1 [x1, x2, 0] [] [] c12
    else
    ald (cA c12 20 a0) 221 (184 + (3 * x3)) >>= fun v2 =>
    ((if v2 ≤ x2 then
    some x2
    else
    ald (cA c12 20 a0) 221 (184 + (3 * x3)) >>= fun v6 =>
    some v6) : Option (Int32)) >>= fun (t3 : Int32) =>
    G_263 a0 0 [x1, t3, x3 + 1] [] [] c12
  | 1, [x1, x2, x3], [], [] =>
    if 46656 ≤ x3 then
    F_256 c12 a0 >>= fun r8 =>
    stl c12 26 a0 46656 r8 1 >>= fun c12_9 =>
    G_263 a0 2 [x1, x2, 0] [] [] c12_9
    else
    stl c12 26 a0 46656 x3 0 >>= fun c12_10 =>
    G_263 a0 1 [x1, x2, x3 + 1] [] [] c12_10
  | 2, [x1, x2, x3], [], [] =>
    if x2 < x3 then
    G_263 a0 4 [0] [0] [] c12
    else
    ((if x3 ≤ 0 then
    some c12
    else
    F_262 c12 a0 >>= fun r15 =>
    some r15) : Option (Cl)) >>= fun (t12 : Cl) =>
    G_263 a0 3 [x1, x2, x3, 0] [] [] t12
  | 3, [x1, x2, x3, x4], [], [] =>
    if 46656 ≤ x4 then
    G_263 a0 2 [x1, x2, x3 + 1] [] [] c12
    else
    ldl (cB c12 26 a0) 46656 x4 >>= fun v19 =>
    ((if (lg_cmp v19 0) = 0 then
    some c12
    else
    F_255 c12 a0 x4 >>= fun r23 =>
    F_261 r23 a0 x3 x1 >>= fun r24 =>
    if r24 = 0 then
    stl r23 26 a0 46656 x4 0 >>= fun c12_26 =>
    some c12_26
    else
    some r23) : Option (Cl)) >>= fun (t20 : Cl) =>
    G_263 a0 3 [x1, x2, x3, x4 + 1] [] [] t20
  | 4, [x5], [y3], [] =>
    if 46656 ≤ x5 then
    some (y3, c12)
    else
    ldl (cB c12 26 a0) 46656 x5 >>= fun v17 =>
    G_263 a0 4 [x5 + 1] [y3 + v17] [] c12
  | _, _, _, _ => none
partial_fixpoint
set_option maxRecDepth 100000 in
set_option maxHeartbeats 4000000 in
theorem g_263 {D : Nat} (hD : 6 ≤ D + 1) {c0 c1 c2 c3 c4 c5 c6 c7 c8 c9 c10 c11 c13 : Cl} {d : Ad} {a0 : Nat} (ha0 : aK d a0 = (0, 12, 0)) : ∀ (lab : Nat) (xs : List Int32) (ys : List Int64) (zs : List Nat) (c12 : Cl) (r : (Int64 × Cl)), G_263 a0 lab xs ys zs c12 = some r →
    (∀ (x1 : Int32) (x2 : Int32) (x3 : Int32), lab = 0 → xs = [x1, x2, x3] → ys = [] → zs = [] → ∀ h : UH, HW (mkw c0 c1 c2 c3 c4 c5 c6 c7 c8 c9 c10 c11 c12 c13) d h → ∀ QQ : UR → Prop, (∀ h' : UH, HW (mkw c0 c1 c2 c3 c4 c5 c6 c7 c8 c9 c10 c11 r.2 c13) d h' → QQ (some (.long r.1), h')) → Ends (EX D) (u_at kl_263) (4, [some (.ref a0), some (.int x1), some (.int x2), some (.int x3), none, none], [], h) QQ) ∧
    (∀ (x1 : Int32) (x2 : Int32) (x3 : Int32), lab = 1 → xs = [x1, x2, x3] → ys = [] → zs = [] → ∀ h : UH, HW (mkw c0 c1 c2 c3 c4 c5 c6 c7 c8 c9 c10 c11 c12 c13) d h → ∀ QQ : UR → Prop, (∀ h' : UH, HW (mkw c0 c1 c2 c3 c4 c5 c6 c7 c8 c9 c10 c11 r.2 c13) d h' → QQ (some (.long r.1), h')) → Ends (EX D) (u_at kl_263) (50, [some (.ref a0), some (.int x1), some (.int x2), some (.int x3), none, none], [], h) QQ) ∧
    (∀ (x1 : Int32) (x2 : Int32) (x3 : Int32), lab = 2 → xs = [x1, x2, x3] → ys = [] → zs = [] → ∀ h : UH, HW (mkw c0 c1 c2 c3 c4 c5 c6 c7 c8 c9 c10 c11 c12 c13) d h → ∀ QQ : UR → Prop, (∀ h' : UH, HW (mkw c0 c1 c2 c3 c4 c5 c6 c7 c8 c9 c10 c11 r.2 c13) d h' → QQ (some (.long r.1), h')) → Ends (EX D) (u_at kl_263) (81, [some (.ref a0), some (.int x1), some (.int x2), some (.int x3), none, none], [], h) QQ) ∧
    (∀ (x1 : Int32) (x2 : Int32) (x3 : Int32) (x4 : Int32), lab = 3 → xs = [x1, x2, x3, x4] → ys = [] → zs = [] → ∀ h : UH, HW (mkw c0 c1 c2 c3 c4 c5 c6 c7 c8 c9 c10 c11 c12 c13) d h → ∀ QQ : UR → Prop, (∀ h' : UH, HW (mkw c0 c1 c2 c3 c4 c5 c6 c7 c8 c9 c10 c11 r.2 c13) d h' → QQ (some (.long r.1), h')) → Ends (EX D) (u_at kl_263) (97, [some (.ref a0), some (.int x1), some (.int x2), some (.int x3), some (.int x4), none], [], h) QQ) ∧
    (∀ (x5 : Int32) (y3 : Int64), lab = 4 → xs = [x5] → ys = [y3] → zs = [] → ∀ h : UH, HW (mkw c0 c1 c2 c3 c4 c5 c6 c7 c8 c9 c10 c11 c12 c13) d h → ∀ QQ : UR → Prop, (∀ h' : UH, HW (mkw c0 c1 c2 c3 c4 c5 c6 c7 c8 c9 c10 c11 r.2 c13) d h' → QQ (some (.long r.1), h')) → Ends (EX D) (u_at kl_263) (159, [some (.ref a0), none, none, some (.long y3), none, some (.int x5)], [], h) QQ) := by
  refine G_263.partial_correctness _ (motive := fun lab xs ys zs c12 r =>
    (∀ (x1 : Int32) (x2 : Int32) (x3 : Int32), lab = 0 → xs = [x1, x2, x3] → ys = [] → zs = [] → ∀ h : UH, HW (mkw c0 c1 c2 c3 c4 c5 c6 c7 c8 c9 c10 c11 c12 c13) d h → ∀ QQ : UR → Prop, (∀ h' : UH, HW (mkw c0 c1 c2 c3 c4 c5 c6 c7 c8 c9 c10 c11 r.2 c13) d h' → QQ (some (.long r.1), h')) → Ends (EX D) (u_at kl_263) (4, [some (.ref a0), some (.int x1), some (.int x2), some (.int x3), none, none], [], h) QQ) ∧
    (∀ (x1 : Int32) (x2 : Int32) (x3 : Int32), lab = 1 → xs = [x1, x2, x3] → ys = [] → zs = [] → ∀ h : UH, HW (mkw c0 c1 c2 c3 c4 c5 c6 c7 c8 c9 c10 c11 c12 c13) d h → ∀ QQ : UR → Prop, (∀ h' : UH, HW (mkw c0 c1 c2 c3 c4 c5 c6 c7 c8 c9 c10 c11 r.2 c13) d h' → QQ (some (.long r.1), h')) → Ends (EX D) (u_at kl_263) (50, [some (.ref a0), some (.int x1), some (.int x2), some (.int x3), none, none], [], h) QQ) ∧
    (∀ (x1 : Int32) (x2 : Int32) (x3 : Int32), lab = 2 → xs = [x1, x2, x3] → ys = [] → zs = [] → ∀ h : UH, HW (mkw c0 c1 c2 c3 c4 c5 c6 c7 c8 c9 c10 c11 c12 c13) d h → ∀ QQ : UR → Prop, (∀ h' : UH, HW (mkw c0 c1 c2 c3 c4 c5 c6 c7 c8 c9 c10 c11 r.2 c13) d h' → QQ (some (.long r.1), h')) → Ends (EX D) (u_at kl_263) (81, [some (.ref a0), some (.int x1), some (.int x2), some (.int x3), none, none], [], h) QQ) ∧
    (∀ (x1 : Int32) (x2 : Int32) (x3 : Int32) (x4 : Int32), lab = 3 → xs = [x1, x2, x3, x4] → ys = [] → zs = [] → ∀ h : UH, HW (mkw c0 c1 c2 c3 c4 c5 c6 c7 c8 c9 c10 c11 c12 c13) d h → ∀ QQ : UR → Prop, (∀ h' : UH, HW (mkw c0 c1 c2 c3 c4 c5 c6 c7 c8 c9 c10 c11 r.2 c13) d h' → QQ (some (.long r.1), h')) → Ends (EX D) (u_at kl_263) (97, [some (.ref a0), some (.int x1), some (.int x2), some (.int x3), some (.int x4), none], [], h) QQ) ∧
    (∀ (x5 : Int32) (y3 : Int64), lab = 4 → xs = [x5] → ys = [y3] → zs = [] → ∀ h : UH, HW (mkw c0 c1 c2 c3 c4 c5 c6 c7 c8 c9 c10 c11 c12 c13) d h → ∀ QQ : UR → Prop, (∀ h' : UH, HW (mkw c0 c1 c2 c3 c4 c5 c6 c7 c8 c9 c10 c11 r.2 c13) d h' → QQ (some (.long r.1), h')) → Ends (EX D) (u_at kl_263) (159, [some (.ref a0), none, none, some (.long y3), none, some (.int x5)], [], h) QQ)) ?_
  intro G ih lab xs ys zs c12 r hF
  refine ⟨?_, ?_, ?_, ?_, ?_⟩
  · intro x1 x2 x3 e1 e2 e3 e4 h hW QQ hQ
    subst e1 e2 e3 e4
    refine en_segs [(4, .iload_n 3, []), (5, .iload_n 1, [])] (by decide +kernel) (y := (6, [some (.ref a0), some (.int x1), some (.int x2), some (.int x3), none, none], [.int x1, .int x3], h)) rfl ?_
    refine en_ic_ge (by decide +kernel : u_at kl_263 6 = some (.if_icmp .ge 42, [48])) (fun b1 => ?_) (fun b1 => ?_)
    · replace hF := i_pos b1 hF
      refine en_segs [(48, .iconst 0, []), (49, .istore_n 3, [])] (by decide +kernel) (y := (50, [some (.ref a0), some (.int x1), some (.int x2), some (.int 0), none, none], [], h)) rfl ?_
      exact (ih _ _ _ _ _ _ hF).2.1 _ _ _ rfl rfl rfl rfl  _ hW _ hQ
    · replace hF := i_neg b1 hF
      refine en_segs [(9, .aload_n 0, [])] (by decide +kernel) (y := (10, [some (.ref a0), some (.int x1), some (.int x2), some (.int x3), none, none], [.ref a0], h)) rfl ?_
      refine en_get (by decide +kernel : u_at kl_263 10 = some (.getfield 39, [12, 20])) hW ha0 (by decide) rfl ?_
      refine en_segs [(13, .sipush 184, []), (16, .iconst 3, []), (17, .iload_n 3, []), (18, .imul, []), (19, .iadd, [])] (by decide +kernel) (y := (20, [some (.ref a0), some (.int x1), some (.int x2), some (.int x3), none, none], [.int (184 + (3 * x3)), .ref (aP d 12 20 a0)], h)) rfl ?_
      obtain ⟨v2, hv2, hF⟩ := ob_some hF
      refine en_iald (by decide +kernel : u_at kl_263 20 = some (.iaload, [])) hW ha0 rfl (by decide) hv2 ?_
      refine en_segs [(21, .iload_n 2, [])] (by decide +kernel) (y := (22, [some (.ref a0), some (.int x1), some (.int x2), some (.int x3), none, none], [.int x2, .int v2], h)) rfl ?_
      obtain ⟨t3, hX, hK⟩ := ob_some hF
      have j4 : ∀ h : UH, HW (mkw c0 c1 c2 c3 c4 c5 c6 c7 c8 c9 c10 c11 c12 c13) d h → Ends (EX D) (u_at kl_263) (41, [some (.ref a0), some (.int x1), some (.int x2), some (.int x3), none, none], [.int t3], h) QQ := by
        intro h hW
        have hF := hK
        refine en_segs [(41, .istore_n 2, []), (42, .iinc 3 1, []), (45, .goto (-41), [4])] (by decide +kernel) (y := (4, [some (.ref a0), some (.int x1), some (.int t3), some (.int (x3 + 1)), none, none], [], h)) rfl ?_
        exact (ih _ _ _ _ _ _ hF).1 _ _ _ rfl rfl rfl rfl  _ hW _ hQ
      have hF := hX
      refine en_ic_le (by decide +kernel : u_at kl_263 22 = some (.if_icmp .le 18, [40])) (fun b5 => ?_) (fun b5 => ?_)
      · replace hF := i_pos b5 hF
        refine en_segs [(40, .iload_n 2, [])] (by decide +kernel) (y := (41, [some (.ref a0), some (.int x1), some (.int x2), some (.int x3), none, none], [.int x2], h)) rfl ?_
        obtain rfl := Option.some.inj hF
        exact j4 _ hW
      · replace hF := i_neg b5 hF
        refine en_segs [(25, .aload_n 0, [])] (by decide +kernel) (y := (26, [some (.ref a0), some (.int x1), some (.int x2), some (.int x3), none, none], [.ref a0], h)) rfl ?_
        refine en_get (by decide +kernel : u_at kl_263 26 = some (.getfield 39, [12, 20])) hW ha0 (by decide) rfl ?_
        refine en_segs [(29, .sipush 184, []), (32, .iconst 3, []), (33, .iload_n 3, []), (34, .imul, []), (35, .iadd, [])] (by decide +kernel) (y := (36, [some (.ref a0), some (.int x1), some (.int x2), some (.int x3), none, none], [.int (184 + (3 * x3)), .ref (aP d 12 20 a0)], h)) rfl ?_
        obtain ⟨v6, hv6, hF⟩ := ob_some hF
        refine en_iald (by decide +kernel : u_at kl_263 36 = some (.iaload, [])) hW ha0 rfl (by decide) hv6 ?_
        refine en_segs [(37, .goto 4, [41])] (by decide +kernel) (y := (41, [some (.ref a0), some (.int x1), some (.int x2), some (.int x3), none, none], [.int v6], h)) rfl ?_
        obtain rfl := Option.some.inj hF
        exact j4 _ hW
  · intro x1 x2 x3 e1 e2 e3 e4 h hW QQ hQ
    subst e1 e2 e3 e4
    refine en_segs [(50, .iload_n 3, []), (51, .ldc 51, [46656])] (by decide +kernel) (y := (53, [some (.ref a0), some (.int x1), some (.int x2), some (.int x3), none, none], [.int 46656, .int x3], h)) rfl ?_
    refine en_ic_ge (by decide +kernel : u_at kl_263 53 = some (.if_icmp .ge 16, [69])) (fun b7 => ?_) (fun b7 => ?_)
    · replace hF := i_pos b7 hF
      refine en_segs [(69, .aload_n 0, [])] (by decide +kernel) (y := (70, [some (.ref a0), some (.int x1), some (.int x2), some (.int x3), none, none], [.ref a0], h)) rfl ?_
      refine en_get (by decide +kernel : u_at kl_263 70 = some (.getfield 52, [12, 26])) hW ha0 (by decide) rfl ?_
      refine en_segs [(73, .aload_n 0, [])] (by decide +kernel) (y := (74, [some (.ref a0), some (.int x1), some (.int x2), some (.int x3), none, none], [.ref a0, .ref (aP d 12 26 a0)], h)) rfl ?_
      obtain ⟨r8, hr8, hF⟩ := ob_some hF
      refine en_vi (r := [.ref (aP d 12 26 a0)]) (by decide +kernel : u_at kl_263 74 = some (.invokevirtual 446, [256, 0, 12])) hW ha0 rfl rfl (Nat.le_of_ble_eq_true rfl) (e_256 (D := D) (by omega) hW ha0 hr8) (fun h' q => ?_)
      subst q
      refine en_segs [(77, .lconst 1, [])] (by decide +kernel) (y := (78, [some (.ref a0), some (.int x1), some (.int x2), some (.int x3), none, none], [.long 1, .int r8, .ref (aP d 12 26 a0)], h)) rfl ?_
      obtain ⟨c12_9, hc12_9, hF⟩ := ob_some hF
      refine en_last (by decide +kernel : u_at kl_263 78 = some (.lastore, [])) hW ha0 rfl (by decide) hc12_9 (fun h hW => ?_)
      have hW : HW (mkw c0 c1 c2 c3 c4 c5 c6 c7 c8 c9 c10 c11 c12_9 c13) d h := hW
      refine en_segs [(79, .iconst 0, []), (80, .istore_n 3, [])] (by decide +kernel) (y := (81, [some (.ref a0), some (.int x1), some (.int x2), some (.int 0), none, none], [], h)) rfl ?_
      exact (ih _ _ _ _ _ _ hF).2.2.1 _ _ _ rfl rfl rfl rfl  _ hW _ hQ
    · replace hF := i_neg b7 hF
      refine en_segs [(56, .aload_n 0, [])] (by decide +kernel) (y := (57, [some (.ref a0), some (.int x1), some (.int x2), some (.int x3), none, none], [.ref a0], h)) rfl ?_
      refine en_get (by decide +kernel : u_at kl_263 57 = some (.getfield 52, [12, 26])) hW ha0 (by decide) rfl ?_
      refine en_segs [(60, .iload_n 3, []), (61, .lconst 0, [])] (by decide +kernel) (y := (62, [some (.ref a0), some (.int x1), some (.int x2), some (.int x3), none, none], [.long 0, .int x3, .ref (aP d 12 26 a0)], h)) rfl ?_
      obtain ⟨c12_10, hc12_10, hF⟩ := ob_some hF
      refine en_last (by decide +kernel : u_at kl_263 62 = some (.lastore, [])) hW ha0 rfl (by decide) hc12_10 (fun h hW => ?_)
      have hW : HW (mkw c0 c1 c2 c3 c4 c5 c6 c7 c8 c9 c10 c11 c12_10 c13) d h := hW
      refine en_segs [(63, .iinc 3 1, []), (66, .goto (-16), [50])] (by decide +kernel) (y := (50, [some (.ref a0), some (.int x1), some (.int x2), some (.int (x3 + 1)), none, none], [], h)) rfl ?_
      exact (ih _ _ _ _ _ _ hF).2.1 _ _ _ rfl rfl rfl rfl  _ hW _ hQ
  · intro x1 x2 x3 e1 e2 e3 e4 h hW QQ hQ
    subst e1 e2 e3 e4
    refine en_segs [(81, .iload_n 3, []), (82, .iload_n 2, [])] (by decide +kernel) (y := (83, [some (.ref a0), some (.int x1), some (.int x2), some (.int x3), none, none], [.int x2, .int x3], h)) rfl ?_
    refine en_ic_gt (by decide +kernel : u_at kl_263 83 = some (.if_icmp .gt 71, [154])) (fun b11 => ?_) (fun b11 => ?_)
    · replace hF := i_pos b11 hF
      refine en_segs [(154, .lconst 0, []), (155, .lstore_n 3, []), (156, .iconst 0, []), (157, .istore 5, [])] (by decide +kernel) (y := (159, [some (.ref a0), some (.int x1), some (.int x2), some (.long 0), none, some (.int 0)], [], h)) rfl ?_
      refine en_fg (fg_k (fg_d (fg_d (fg_k (fg_k (fg_k fg_0)))))) ?_
      exact (ih _ _ _ _ _ _ hF).2.2.2.2 _ _ rfl rfl rfl rfl  _ hW _ hQ
    · replace hF := i_neg b11 hF
      refine en_segs [(86, .iload_n 3, [])] (by decide +kernel) (y := (87, [some (.ref a0), some (.int x1), some (.int x2), some (.int x3), none, none], [.int x3], h)) rfl ?_
      obtain ⟨t12, hX, hK⟩ := ob_some hF
      have j13 : ∀ h : UH, HW (mkw c0 c1 c2 c3 c4 c5 c6 c7 c8 c9 c10 c11 t12 c13) d h → Ends (EX D) (u_at kl_263) (94, [some (.ref a0), some (.int x1), some (.int x2), some (.int x3), none, none], [], h) QQ := by
        intro h hW
        have hF := hK
        refine en_segs [(94, .iconst 0, []), (95, .istore 4, [])] (by decide +kernel) (y := (97, [some (.ref a0), some (.int x1), some (.int x2), some (.int x3), some (.int 0), none], [], h)) rfl ?_
        exact (ih _ _ _ _ _ _ hF).2.2.2.1 _ _ _ _ rfl rfl rfl rfl  _ hW _ hQ
      have hF := hX
      refine en_if_le (by decide +kernel : u_at kl_263 87 = some (.ifCond .le 7, [94])) (fun b14 => ?_) (fun b14 => ?_)
      · replace hF := i_pos b14 hF
        obtain rfl := Option.some.inj hF
        exact j13 _ hW
      · replace hF := i_neg b14 hF
        refine en_segs [(90, .aload_n 0, [])] (by decide +kernel) (y := (91, [some (.ref a0), some (.int x1), some (.int x2), some (.int x3), none, none], [.ref a0], h)) rfl ?_
        obtain ⟨r15, hr15, hF⟩ := ob_some hF
        refine en_vv (r := []) (by decide +kernel : u_at kl_263 91 = some (.invokevirtual 449, [262, 0, 12])) hW ha0 rfl rfl (Nat.le_of_ble_eq_true rfl) (e_262 (D := D) (by omega) hW ha0 hr15) (fun h hW => ?_)
        have hW : HW (mkw c0 c1 c2 c3 c4 c5 c6 c7 c8 c9 c10 c11 r15 c13) d h := hW
        obtain rfl := Option.some.inj hF
        exact j13 _ hW
  · intro x1 x2 x3 x4 e1 e2 e3 e4 h hW QQ hQ
    subst e1 e2 e3 e4
    refine en_segs [(97, .iload 4, []), (99, .ldc 51, [46656])] (by decide +kernel) (y := (101, [some (.ref a0), some (.int x1), some (.int x2), some (.int x3), some (.int x4), none], [.int 46656, .int x4], h)) rfl ?_
    refine en_ic_ge (by decide +kernel : u_at kl_263 101 = some (.if_icmp .ge 47, [148])) (fun b18 => ?_) (fun b18 => ?_)
    · replace hF := i_pos b18 hF
      refine en_segs [(148, .iinc 3 1, []), (151, .goto (-70), [81])] (by decide +kernel) (y := (81, [some (.ref a0), some (.int x1), some (.int x2), some (.int (x3 + 1)), some (.int x4), none], [], h)) rfl ?_
      refine en_fg (fg_k (fg_k (fg_k (fg_k (fg_d (fg_k fg_0)))))) ?_
      exact (ih _ _ _ _ _ _ hF).2.2.1 _ _ _ rfl rfl rfl rfl  _ hW _ hQ
    · replace hF := i_neg b18 hF
      refine en_segs [(104, .aload_n 0, [])] (by decide +kernel) (y := (105, [some (.ref a0), some (.int x1), some (.int x2), some (.int x3), some (.int x4), none], [.ref a0], h)) rfl ?_
      refine en_get (by decide +kernel : u_at kl_263 105 = some (.getfield 52, [12, 26])) hW ha0 (by decide) rfl ?_
      refine en_segs [(108, .iload 4, [])] (by decide +kernel) (y := (110, [some (.ref a0), some (.int x1), some (.int x2), some (.int x3), some (.int x4), none], [.int x4, .ref (aP d 12 26 a0)], h)) rfl ?_
      obtain ⟨v19, hv19, hF⟩ := ob_some hF
      refine en_lald (by decide +kernel : u_at kl_263 110 = some (.laload, [])) hW ha0 rfl (by decide) hv19 ?_
      refine en_segs [(111, .lconst 0, []), (112, .lcmp, [])] (by decide +kernel) (y := (113, [some (.ref a0), some (.int x1), some (.int x2), some (.int x3), some (.int x4), none], [.int (lg_cmp v19 0)], h)) rfl ?_
      obtain ⟨t20, hX, hK⟩ := ob_some hF
      have j21 : ∀ h : UH, HW (mkw c0 c1 c2 c3 c4 c5 c6 c7 c8 c9 c10 c11 t20 c13) d h → Ends (EX D) (u_at kl_263) (142, [some (.ref a0), some (.int x1), some (.int x2), some (.int x3), some (.int x4), none], [], h) QQ := by
        intro h hW
        have hF := hK
        refine en_segs [(142, .iinc 4 1, []), (145, .goto (-48), [97])] (by decide +kernel) (y := (97, [some (.ref a0), some (.int x1), some (.int x2), some (.int x3), some (.int (x4 + 1)), none], [], h)) rfl ?_
        exact (ih _ _ _ _ _ _ hF).2.2.2.1 _ _ _ _ rfl rfl rfl rfl  _ hW _ hQ
      have hF := hX
      refine en_if_ne (by decide +kernel : u_at kl_263 113 = some (.ifCond .ne 6, [119])) (fun b22 => ?_) (fun b22 => ?_)
      · replace hF := i_pos b22 hF
        refine en_segs [(116, .goto 26, [142])] (by decide +kernel) (y := (142, [some (.ref a0), some (.int x1), some (.int x2), some (.int x3), some (.int x4), none], [], h)) rfl ?_
        obtain rfl := Option.some.inj hF
        exact j21 _ hW
      · replace hF := i_neg b22 hF
        refine en_segs [(119, .aload_n 0, []), (120, .iload 4, [])] (by decide +kernel) (y := (122, [some (.ref a0), some (.int x1), some (.int x2), some (.int x3), some (.int x4), none], [.int x4, .ref a0], h)) rfl ?_
        obtain ⟨r23, hr23, hF⟩ := ob_some hF
        refine en_vv (r := []) (by decide +kernel : u_at kl_263 122 = some (.invokevirtual 434, [255, 1, 12])) hW ha0 rfl rfl (Nat.le_of_ble_eq_true rfl) (e_255 (D := D) (by omega) hW ha0 hr23) (fun h hW => ?_)
        have hW : HW (mkw c0 c1 c2 c3 c4 c5 c6 c7 c8 c9 c10 c11 r23 c13) d h := hW
        refine en_segs [(125, .aload_n 0, []), (126, .iload_n 3, []), (127, .iload_n 1, [])] (by decide +kernel) (y := (128, [some (.ref a0), some (.int x1), some (.int x2), some (.int x3), some (.int x4), none], [.int x1, .int x3, .ref a0], h)) rfl ?_
        obtain ⟨r24, hr24, hF⟩ := ob_some hF
        refine en_vi (r := []) (by decide +kernel : u_at kl_263 128 = some (.invokevirtual 452, [261, 2, 12])) hW ha0 rfl rfl (Nat.le_of_ble_eq_true rfl) (e_261 (D := D) (by omega) hW ha0 hr24) (fun h' q => ?_)
        subst q
        refine en_if_ne (by decide +kernel : u_at kl_263 131 = some (.ifCond .ne 11, [142])) (fun b25 => ?_) (fun b25 => ?_)
        · replace hF := i_pos b25 hF
          refine en_segs [(134, .aload_n 0, [])] (by decide +kernel) (y := (135, [some (.ref a0), some (.int x1), some (.int x2), some (.int x3), some (.int x4), none], [.ref a0], h)) rfl ?_
          refine en_get (by decide +kernel : u_at kl_263 135 = some (.getfield 52, [12, 26])) hW ha0 (by decide) rfl ?_
          refine en_segs [(138, .iload 4, []), (140, .lconst 0, [])] (by decide +kernel) (y := (141, [some (.ref a0), some (.int x1), some (.int x2), some (.int x3), some (.int x4), none], [.long 0, .int x4, .ref (aP d 12 26 a0)], h)) rfl ?_
          obtain ⟨c12_26, hc12_26, hF⟩ := ob_some hF
          refine en_last (by decide +kernel : u_at kl_263 141 = some (.lastore, [])) hW ha0 rfl (by decide) hc12_26 (fun h hW => ?_)
          have hW : HW (mkw c0 c1 c2 c3 c4 c5 c6 c7 c8 c9 c10 c11 c12_26 c13) d h := hW
          obtain rfl := Option.some.inj hF
          exact j21 _ hW
        · replace hF := i_neg b25 hF
          obtain rfl := Option.some.inj hF
          exact j21 _ hW
  · intro x5 y3 e1 e2 e3 e4 h hW QQ hQ
    subst e1 e2 e3 e4
    refine en_segs [(159, .iload 5, []), (161, .ldc 51, [46656])] (by decide +kernel) (y := (163, [some (.ref a0), none, none, some (.long y3), none, some (.int x5)], [.int 46656, .int x5], h)) rfl ?_
    refine en_ic_ge (by decide +kernel : u_at kl_263 163 = some (.if_icmp .ge 19, [182])) (fun b16 => ?_) (fun b16 => ?_)
    · replace hF := i_pos b16 hF
      refine en_segs [(182, .lload_n 3, [])] (by decide +kernel) (y := (183, [some (.ref a0), none, none, some (.long y3), none, some (.int x5)], [.long y3], h)) rfl ?_
      obtain rfl := Option.some.inj hF
      exact en_ret (by decide +kernel : u_at kl_263 183 = some (.lreturn, [])) rfl (hQ _ hW)
    · replace hF := i_neg b16 hF
      refine en_segs [(166, .lload_n 3, []), (167, .aload_n 0, [])] (by decide +kernel) (y := (168, [some (.ref a0), none, none, some (.long y3), none, some (.int x5)], [.ref a0, .long y3], h)) rfl ?_
      refine en_get (by decide +kernel : u_at kl_263 168 = some (.getfield 52, [12, 26])) hW ha0 (by decide) rfl ?_
      refine en_segs [(171, .iload 5, [])] (by decide +kernel) (y := (173, [some (.ref a0), none, none, some (.long y3), none, some (.int x5)], [.int x5, .ref (aP d 12 26 a0), .long y3], h)) rfl ?_
      obtain ⟨v17, hv17, hF⟩ := ob_some hF
      refine en_lald (by decide +kernel : u_at kl_263 173 = some (.laload, [])) hW ha0 rfl (by decide) hv17 ?_
      refine en_segs [(174, .ladd, []), (175, .lstore_n 3, []), (176, .iinc 5 1, []), (179, .goto (-20), [159])] (by decide +kernel) (y := (159, [some (.ref a0), none, none, some (.long (y3 + v17)), none, some (.int (x5 + 1))], [], h)) rfl ?_
      exact (ih _ _ _ _ _ _ hF).2.2.2.2 _ _ rfl rfl rfl rfl  _ hW _ hQ
def F_263 (c12 : Cl) (a0 : Nat) (p1 : Int32) : Option (Int64 × Cl) :=
  G_263 a0 0 [p1, 0, 0] [] [] c12
set_option maxRecDepth 100000 in
set_option maxHeartbeats 4000000 in
/-- HeadCountsModel.fitting -/
theorem e_263 {D : Nat} {c0 c1 c2 c3 c4 c5 c6 c7 c8 c9 c10 c11 c12 c13 : Cl} {d : Ad} {h : UH} {a0 : Nat} {p1 : Int32} {r : (Int64 × Cl)} (hD : 6 ≤ D) (hW : HW (mkw c0 c1 c2 c3 c4 c5 c6 c7 c8 c9 c10 c11 c12 c13) d h) (ha0 : aK d a0 = (0, 12, 0)) (hF : F_263 c12 a0 p1 = some r) : ∃ q, EX D 263 [.ref a0, .int p1] h q ∧ q.1 = some (.long r.1) ∧ HW (mkw c0 c1 c2 c3 c4 c5 c6 c7 c8 c9 c10 c11 r.2 c13) d q.2 := by
  obtain ⟨D, rfl⟩ : ∃ E, D = E + 1 := ⟨D - 1, by omega⟩
  unfold F_263 at hF
  refine ex_in (kl := kl_263) (nL := 6) rfl (by decide +kernel) (Nat.le_of_ble_eq_true rfl) ?_
  obtain ⟨QQ, hQQ⟩ : ∃ QQ : UR → Prop, QQ = (fun q : UR => q.1 = some (.long r.1) ∧ HW (mkw c0 c1 c2 c3 c4 c5 c6 c7 c8 c9 c10 c11 r.2 c13) d q.2) := ⟨_, rfl⟩
  rw [← hQQ]
  have hQ : ∀ h' : UH, HW (mkw c0 c1 c2 c3 c4 c5 c6 c7 c8 c9 c10 c11 r.2 c13) d h' → QQ (some (.long r.1), h') := fun h' p => by rw [hQQ]; exact ⟨rfl, p⟩
  clear hQQ
  show Ends (EX D) (u_at kl_263) (0, [some (.ref a0), some (.int p1), none, none, none, none], [], h) QQ
  refine en_segs [(0, .iconst 0, []), (1, .istore_n 2, []), (2, .iconst 0, []), (3, .istore_n 3, [])] (by decide +kernel) (y := (4, [some (.ref a0), some (.int p1), some (.int 0), some (.int 0), none, none], [], h)) rfl ?_
  exact (g_263 (D := D) hD (d := d) ha0 _ _ _ _ _ _ hF).1 _ _ _ rfl rfl rfl rfl  _ hW _ hQ
def F_264 (c12 : Cl) (a0 : Nat) : Option (Int64 × Cl) :=
  F_218 c12 a0 >>= fun r1 =>
  ((if r1 = 0 then
  some ((-1), c12)
  else
  ald (cA c12 20 a0) 221 220 >>= fun v5 =>
  F_263 c12 a0 v5 >>= fun r6 =>
  some (r6.1, r6.2)) : Option (Int64 × Cl)) >>= fun (t2 : Int64 × Cl) =>
  some (t2.1, t2.2)
set_option maxRecDepth 100000 in
set_option maxHeartbeats 4000000 in
/-- HeadCountsModel.fits -/
theorem e_264 {D : Nat} {c0 c1 c2 c3 c4 c5 c6 c7 c8 c9 c10 c11 c12 c13 : Cl} {d : Ad} {h : UH} {a0 : Nat} {r : (Int64 × Cl)} (hD : 7 ≤ D) (hW : HW (mkw c0 c1 c2 c3 c4 c5 c6 c7 c8 c9 c10 c11 c12 c13) d h) (ha0 : aK d a0 = (0, 12, 0)) (hF : F_264 c12 a0 = some r) : ∃ q, EX D 264 [.ref a0] h q ∧ q.1 = some (.long r.1) ∧ HW (mkw c0 c1 c2 c3 c4 c5 c6 c7 c8 c9 c10 c11 r.2 c13) d q.2 := by
  obtain ⟨D, rfl⟩ : ∃ E, D = E + 1 := ⟨D - 1, by omega⟩
  unfold F_264 at hF
  refine ex_in (kl := kl_264) (nL := 1) rfl (by decide +kernel) (Nat.le_of_ble_eq_true rfl) ?_
  obtain ⟨QQ, hQQ⟩ : ∃ QQ : UR → Prop, QQ = (fun q : UR => q.1 = some (.long r.1) ∧ HW (mkw c0 c1 c2 c3 c4 c5 c6 c7 c8 c9 c10 c11 r.2 c13) d q.2) := ⟨_, rfl⟩
  rw [← hQQ]
  have hQ : ∀ h' : UH, HW (mkw c0 c1 c2 c3 c4 c5 c6 c7 c8 c9 c10 c11 r.2 c13) d h' → QQ (some (.long r.1), h') := fun h' p => by rw [hQQ]; exact ⟨rfl, p⟩
  clear hQQ
  show Ends (EX D) (u_at kl_264) (0, [some (.ref a0)], [], h) QQ
  refine en_segs [(0, .aload_n 0, [])] (by decide +kernel) (y := (1, [some (.ref a0)], [.ref a0], h)) rfl ?_
  obtain ⟨r1, hr1, hF⟩ := ob_some hF
  refine en_vi (r := []) (by decide +kernel : u_at kl_264 1 = some (.invokevirtual 409, [218, 0, 12])) hW ha0 rfl rfl (Nat.le_of_ble_eq_true rfl) (e_218 (D := D) (by omega) hW ha0 hr1) (fun h' q => ?_)
  subst q
  obtain ⟨t2, hX, hK⟩ := ob_some hF
  have j3 : ∀ h : UH, HW (mkw c0 c1 c2 c3 c4 c5 c6 c7 c8 c9 c10 c11 t2.2 c13) d h → Ends (EX D) (u_at kl_264) (25, [some (.ref a0)], [.long t2.1], h) QQ := by
    intro h hW
    have hF := hK
    obtain rfl := Option.some.inj hF
    exact en_ret (by decide +kernel : u_at kl_264 25 = some (.lreturn, [])) rfl (hQ _ hW)
  have hF := hX
  refine en_if_eq (by decide +kernel : u_at kl_264 4 = some (.ifCond .eq 18, [22])) (fun b4 => ?_) (fun b4 => ?_)
  · replace hF := i_pos b4 hF
    refine en_segs [(22, .ldc2_w 459, [18446744073709551615])] (by decide +kernel) (y := (25, [some (.ref a0)], [.long (-1)], h)) rfl ?_
    obtain rfl := Option.some.inj hF
    exact j3 _ hW
  · replace hF := i_neg b4 hF
    refine en_segs [(7, .aload_n 0, []), (8, .aload_n 0, [])] (by decide +kernel) (y := (9, [some (.ref a0)], [.ref a0, .ref a0], h)) rfl ?_
    refine en_get (by decide +kernel : u_at kl_264 9 = some (.getfield 39, [12, 20])) hW ha0 (by decide) rfl ?_
    refine en_segs [(12, .sipush 220, [])] (by decide +kernel) (y := (15, [some (.ref a0)], [.int 220, .ref (aP d 12 20 a0), .ref a0], h)) rfl ?_
    obtain ⟨v5, hv5, hF⟩ := ob_some hF
    refine en_iald (by decide +kernel : u_at kl_264 15 = some (.iaload, [])) hW ha0 rfl (by decide) hv5 ?_
    obtain ⟨r6, hr6, hF⟩ := ob_some hF
    refine en_vl (r := []) (by decide +kernel : u_at kl_264 16 = some (.invokevirtual 455, [263, 1, 12])) hW ha0 rfl rfl (Nat.le_of_ble_eq_true rfl) (e_263 (D := D) (by omega) hW ha0 hr6) (fun h hW => ?_)
    have hW : HW (mkw c0 c1 c2 c3 c4 c5 c6 c7 c8 c9 c10 c11 r6.2 c13) d h := hW
    refine en_segs [(19, .goto 6, [25])] (by decide +kernel) (y := (25, [some (.ref a0)], [.long r6.1], h)) rfl ?_
    obtain rfl := Option.some.inj hF
    exact j3 _ hW
