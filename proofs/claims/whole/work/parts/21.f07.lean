def G_250 (a0 : Nat) (lab : Nat) (xs : List Int32) (ys : List Int64) (zs : List Nat) (c12 : Cl) : Option (Int32 × Cl) := match lab, xs, ys, zs with
  | 0, [x1, x2, x3], [], [] =>
    ald (cA c12 6 a0) 6 x1 >>= fun v2 =>
    if v2 ≤ x3 then
    some ((-1), c12)
    else
    ald (cA c12 5 a0) 288 (((48 * x1) + (4 * x3)) + 2) >>= fun v4 =>
    if v4 < 0 then
    G_250 a0 1 [x1, x2, (48 * x1) + (4 * x3)] [] [] c12
    else
    ald (cA c12 5 a0) 288 (((48 * x1) + (4 * x3)) + 2) >>= fun v6 =>
    ald (cA c12 5 a0) 288 (((48 * x1) + (4 * x3)) + 3) >>= fun v7 =>
    F_217 c12 a0 x1 v6 v7 >>= fun r8 =>
    if (lg_cmp r8.1 1) = 0 then
    G_250 a0 1 [x1, x2, (48 * x1) + (4 * x3)] [] [] r8.2
    else
    G_250 a0 0 [x1, x2, x3 + 1] [] [] r8.2
  | 1, [x1, x2, x4], [], [] =>
    ald (cA c12 5 a0) 288 x4 >>= fun v10 =>
    ald (cA c12 5 a0) 288 (x4 + 1) >>= fun v11 =>
    F_217 c12 a0 x1 v10 v11 >>= fun r12 =>
    ald (cA r12.2 20 a0) 221 0 >>= fun v13 =>
    F_170 r12.1 0 (((v13 : Int32).toInt64) - 1) >>= fun r14 =>
    ((if r14 = 0 then
    some (-1)
    else
    F_241 r12.2 a0 x2 ((r12.1 : Int64).toInt32) >>= fun r18 =>
    if r18 = 0 then
    some (-1)
    else
    some ((r12.1 : Int64).toInt32)) : Option (Int32)) >>= fun (t15 : Int32) =>
    some (t15, r12.2)
  | _, _, _, _ => none
partial_fixpoint
set_option maxRecDepth 100000 in
set_option maxHeartbeats 4000000 in
theorem g_250 {D : Nat} (hD : 8 ≤ D + 1) {c0 c1 c2 c3 c4 c5 c6 c7 c8 c9 c10 c11 c13 : Cl} {d : Ad} {a0 : Nat} (ha0 : aK d a0 = (0, 12, 0)) : ∀ (lab : Nat) (xs : List Int32) (ys : List Int64) (zs : List Nat) (c12 : Cl) (r : (Int32 × Cl)), G_250 a0 lab xs ys zs c12 = some r →
    (∀ (x1 : Int32) (x2 : Int32) (x3 : Int32), lab = 0 → xs = [x1, x2, x3] → ys = [] → zs = [] → ∀ h : UH, HW (mkw c0 c1 c2 c3 c4 c5 c6 c7 c8 c9 c10 c11 c12 c13) d h → ∀ QQ : UR → Prop, (∀ h' : UH, HW (mkw c0 c1 c2 c3 c4 c5 c6 c7 c8 c9 c10 c11 r.2 c13) d h' → QQ (some (.int r.1), h')) → Ends (EX D) (u_at kl_250) (7, [some (.ref a0), some (.int x1), some (.int x2), some (.int x3), none, none, none], [], h) QQ) ∧
    (∀ (x1 : Int32) (x2 : Int32) (x4 : Int32), lab = 1 → xs = [x1, x2, x4] → ys = [] → zs = [] → ∀ h : UH, HW (mkw c0 c1 c2 c3 c4 c5 c6 c7 c8 c9 c10 c11 c12 c13) d h → ∀ QQ : UR → Prop, (∀ h' : UH, HW (mkw c0 c1 c2 c3 c4 c5 c6 c7 c8 c9 c10 c11 r.2 c13) d h' → QQ (some (.int r.1), h')) → Ends (EX D) (u_at kl_250) (70, [some (.ref a0), some (.int x1), some (.int x2), none, some (.int x4), none, none], [], h) QQ) := by
  refine G_250.partial_correctness _ (motive := fun lab xs ys zs c12 r =>
    (∀ (x1 : Int32) (x2 : Int32) (x3 : Int32), lab = 0 → xs = [x1, x2, x3] → ys = [] → zs = [] → ∀ h : UH, HW (mkw c0 c1 c2 c3 c4 c5 c6 c7 c8 c9 c10 c11 c12 c13) d h → ∀ QQ : UR → Prop, (∀ h' : UH, HW (mkw c0 c1 c2 c3 c4 c5 c6 c7 c8 c9 c10 c11 r.2 c13) d h' → QQ (some (.int r.1), h')) → Ends (EX D) (u_at kl_250) (7, [some (.ref a0), some (.int x1), some (.int x2), some (.int x3), none, none, none], [], h) QQ) ∧
    (∀ (x1 : Int32) (x2 : Int32) (x4 : Int32), lab = 1 → xs = [x1, x2, x4] → ys = [] → zs = [] → ∀ h : UH, HW (mkw c0 c1 c2 c3 c4 c5 c6 c7 c8 c9 c10 c11 c12 c13) d h → ∀ QQ : UR → Prop, (∀ h' : UH, HW (mkw c0 c1 c2 c3 c4 c5 c6 c7 c8 c9 c10 c11 r.2 c13) d h' → QQ (some (.int r.1), h')) → Ends (EX D) (u_at kl_250) (70, [some (.ref a0), some (.int x1), some (.int x2), none, some (.int x4), none, none], [], h) QQ)) ?_
  intro G ih lab xs ys zs c12 r hF
  refine ⟨?_, ?_⟩
  · intro x1 x2 x3 e1 e2 e3 e4 h hW QQ hQ
    subst e1 e2 e3 e4
    refine en_segs [(7, .iload_n 3, []), (8, .aload_n 0, [])] (by decide +kernel) (y := (9, [some (.ref a0), some (.int x1), some (.int x2), some (.int x3), none, none, none], [.ref a0, .int x3], h)) rfl ?_
    refine en_get (by decide +kernel : u_at kl_250 9 = some (.getfield 23, [12, 6])) hW ha0 (by decide) rfl ?_
    refine en_segs [(12, .iload_n 1, [])] (by decide +kernel) (y := (13, [some (.ref a0), some (.int x1), some (.int x2), some (.int x3), none, none, none], [.int x1, .ref (aP d 12 6 a0), .int x3], h)) rfl ?_
    obtain ⟨v2, hv2, hF⟩ := ob_some hF
    refine en_iald (by decide +kernel : u_at kl_250 13 = some (.iaload, [])) hW ha0 rfl (by decide) hv2 ?_
    refine en_ic_ge (by decide +kernel : u_at kl_250 14 = some (.if_icmp .ge 122, [136])) (fun b3 => ?_) (fun b3 => ?_)
    · replace hF := i_pos b3 hF
      refine en_segs [(136, .iconst (-1), [])] (by decide +kernel) (y := (137, [some (.ref a0), some (.int x1), some (.int x2), some (.int x3), none, none, none], [.int (-1)], h)) rfl ?_
      obtain rfl := Option.some.inj hF
      exact en_ret (by decide +kernel : u_at kl_250 137 = some (.ireturn, [0])) rfl (hQ _ hW)
    · replace hF := i_neg b3 hF
      refine en_segs [(17, .bipush 48, []), (19, .iload_n 1, []), (20, .imul, []), (21, .iconst 4, []), (22, .iload_n 3, []), (23, .imul, []), (24, .iadd, []), (25, .istore 4, []), (27, .aload_n 0, [])] (by decide +kernel) (y := (28, [some (.ref a0), some (.int x1), some (.int x2), some (.int x3), some (.int ((48 * x1) + (4 * x3))), none, none], [.ref a0], h)) rfl ?_
      refine en_get (by decide +kernel : u_at kl_250 28 = some (.getfield 20, [12, 5])) hW ha0 (by decide) rfl ?_
      refine en_segs [(31, .iload 4, []), (33, .iconst 2, []), (34, .iadd, [])] (by decide +kernel) (y := (35, [some (.ref a0), some (.int x1), some (.int x2), some (.int x3), some (.int ((48 * x1) + (4 * x3))), none, none], [.int (((48 * x1) + (4 * x3)) + 2), .ref (aP d 12 5 a0)], h)) rfl ?_
      obtain ⟨v4, hv4, hF⟩ := ob_some hF
      refine en_iald (by decide +kernel : u_at kl_250 35 = some (.iaload, [])) hW ha0 rfl (by decide) hv4 ?_
      refine en_if_lt (by decide +kernel : u_at kl_250 36 = some (.ifCond .lt 34, [70])) (fun b5 => ?_) (fun b5 => ?_)
      · replace hF := i_pos b5 hF
        refine en_fg (fg_k (fg_k (fg_k (fg_d (fg_k (fg_k (fg_k fg_0))))))) ?_
        exact (ih _ _ _ _ _ _ hF).2 _ _ _ rfl rfl rfl rfl  _ hW _ hQ
      · replace hF := i_neg b5 hF
        refine en_segs [(39, .aload_n 0, []), (40, .iload_n 1, []), (41, .aload_n 0, [])] (by decide +kernel) (y := (42, [some (.ref a0), some (.int x1), some (.int x2), some (.int x3), some (.int ((48 * x1) + (4 * x3))), none, none], [.ref a0, .int x1, .ref a0], h)) rfl ?_
        refine en_get (by decide +kernel : u_at kl_250 42 = some (.getfield 20, [12, 5])) hW ha0 (by decide) rfl ?_
        refine en_segs [(45, .iload 4, []), (47, .iconst 2, []), (48, .iadd, [])] (by decide +kernel) (y := (49, [some (.ref a0), some (.int x1), some (.int x2), some (.int x3), some (.int ((48 * x1) + (4 * x3))), none, none], [.int (((48 * x1) + (4 * x3)) + 2), .ref (aP d 12 5 a0), .int x1, .ref a0], h)) rfl ?_
        obtain ⟨v6, hv6, hF⟩ := ob_some hF
        refine en_iald (by decide +kernel : u_at kl_250 49 = some (.iaload, [])) hW ha0 rfl (by decide) hv6 ?_
        refine en_segs [(50, .aload_n 0, [])] (by decide +kernel) (y := (51, [some (.ref a0), some (.int x1), some (.int x2), some (.int x3), some (.int ((48 * x1) + (4 * x3))), none, none], [.ref a0, .int v6, .int x1, .ref a0], h)) rfl ?_
        refine en_get (by decide +kernel : u_at kl_250 51 = some (.getfield 20, [12, 5])) hW ha0 (by decide) rfl ?_
        refine en_segs [(54, .iload 4, []), (56, .iconst 3, []), (57, .iadd, [])] (by decide +kernel) (y := (58, [some (.ref a0), some (.int x1), some (.int x2), some (.int x3), some (.int ((48 * x1) + (4 * x3))), none, none], [.int (((48 * x1) + (4 * x3)) + 3), .ref (aP d 12 5 a0), .int v6, .int x1, .ref a0], h)) rfl ?_
        obtain ⟨v7, hv7, hF⟩ := ob_some hF
        refine en_iald (by decide +kernel : u_at kl_250 58 = some (.iaload, [])) hW ha0 rfl (by decide) hv7 ?_
        obtain ⟨r8, hr8, hF⟩ := ob_some hF
        refine en_vl (r := []) (by decide +kernel : u_at kl_250 59 = some (.invokevirtual 417, [217, 3, 12])) hW ha0 rfl rfl (Nat.le_of_ble_eq_true rfl) (e_217 (D := D) (by omega) hW ha0 hr8) (fun h hW => ?_)
        have hW : HW (mkw c0 c1 c2 c3 c4 c5 c6 c7 c8 c9 c10 c11 r8.2 c13) d h := hW
        refine en_segs [(62, .lconst 1, []), (63, .lcmp, [])] (by decide +kernel) (y := (64, [some (.ref a0), some (.int x1), some (.int x2), some (.int x3), some (.int ((48 * x1) + (4 * x3))), none, none], [.int (lg_cmp r8.1 1)], h)) rfl ?_
        refine en_if_eq (by decide +kernel : u_at kl_250 64 = some (.ifCond .eq 6, [70])) (fun b9 => ?_) (fun b9 => ?_)
        · replace hF := i_pos b9 hF
          refine en_fg (fg_k (fg_k (fg_k (fg_d (fg_k (fg_k (fg_k fg_0))))))) ?_
          exact (ih _ _ _ _ _ _ hF).2 _ _ _ rfl rfl rfl rfl  _ hW _ hQ
        · replace hF := i_neg b9 hF
          refine en_segs [(67, .goto 63, [130]), (130, .iinc 3 1, []), (133, .goto (-126), [7])] (by decide +kernel) (y := (7, [some (.ref a0), some (.int x1), some (.int x2), some (.int (x3 + 1)), some (.int ((48 * x1) + (4 * x3))), none, none], [], h)) rfl ?_
          refine en_fg (fg_k (fg_k (fg_k (fg_k (fg_d (fg_k (fg_k fg_0))))))) ?_
          exact (ih _ _ _ _ _ _ hF).1 _ _ _ rfl rfl rfl rfl  _ hW _ hQ
  · intro x1 x2 x4 e1 e2 e3 e4 h hW QQ hQ
    subst e1 e2 e3 e4
    refine en_segs [(70, .aload_n 0, []), (71, .iload_n 1, []), (72, .aload_n 0, [])] (by decide +kernel) (y := (73, [some (.ref a0), some (.int x1), some (.int x2), none, some (.int x4), none, none], [.ref a0, .int x1, .ref a0], h)) rfl ?_
    refine en_get (by decide +kernel : u_at kl_250 73 = some (.getfield 20, [12, 5])) hW ha0 (by decide) rfl ?_
    refine en_segs [(76, .iload 4, [])] (by decide +kernel) (y := (78, [some (.ref a0), some (.int x1), some (.int x2), none, some (.int x4), none, none], [.int x4, .ref (aP d 12 5 a0), .int x1, .ref a0], h)) rfl ?_
    obtain ⟨v10, hv10, hF⟩ := ob_some hF
    refine en_iald (by decide +kernel : u_at kl_250 78 = some (.iaload, [])) hW ha0 rfl (by decide) hv10 ?_
    refine en_segs [(79, .aload_n 0, [])] (by decide +kernel) (y := (80, [some (.ref a0), some (.int x1), some (.int x2), none, some (.int x4), none, none], [.ref a0, .int v10, .int x1, .ref a0], h)) rfl ?_
    refine en_get (by decide +kernel : u_at kl_250 80 = some (.getfield 20, [12, 5])) hW ha0 (by decide) rfl ?_
    refine en_segs [(83, .iload 4, []), (85, .iconst 1, []), (86, .iadd, [])] (by decide +kernel) (y := (87, [some (.ref a0), some (.int x1), some (.int x2), none, some (.int x4), none, none], [.int (x4 + 1), .ref (aP d 12 5 a0), .int v10, .int x1, .ref a0], h)) rfl ?_
    obtain ⟨v11, hv11, hF⟩ := ob_some hF
    refine en_iald (by decide +kernel : u_at kl_250 87 = some (.iaload, [])) hW ha0 rfl (by decide) hv11 ?_
    obtain ⟨r12, hr12, hF⟩ := ob_some hF
    refine en_vl (r := []) (by decide +kernel : u_at kl_250 88 = some (.invokevirtual 417, [217, 3, 12])) hW ha0 rfl rfl (Nat.le_of_ble_eq_true rfl) (e_217 (D := D) (by omega) hW ha0 hr12) (fun h hW => ?_)
    have hW : HW (mkw c0 c1 c2 c3 c4 c5 c6 c7 c8 c9 c10 c11 r12.2 c13) d h := hW
    refine en_segs [(91, .lstore 5, []), (93, .lload 5, []), (95, .lconst 0, []), (96, .aload_n 0, [])] (by decide +kernel) (y := (97, [some (.ref a0), some (.int x1), some (.int x2), none, some (.int x4), some (.long r12.1), none], [.ref a0, .long 0, .long r12.1], h)) rfl ?_
    refine en_get (by decide +kernel : u_at kl_250 97 = some (.getfield 39, [12, 20])) hW ha0 (by decide) rfl ?_
    refine en_segs [(100, .iconst 0, [])] (by decide +kernel) (y := (101, [some (.ref a0), some (.int x1), some (.int x2), none, some (.int x4), some (.long r12.1), none], [.int 0, .ref (aP d 12 20 a0), .long 0, .long r12.1], h)) rfl ?_
    obtain ⟨v13, hv13, hF⟩ := ob_some hF
    refine en_iald (by decide +kernel : u_at kl_250 101 = some (.iaload, [])) hW ha0 rfl (by decide) hv13 ?_
    refine en_segs [(102, .i2l, []), (103, .lconst 1, []), (104, .lsub, [])] (by decide +kernel) (y := (105, [some (.ref a0), some (.int x1), some (.int x2), none, some (.int x4), some (.long r12.1), none], [.long (((v13 : Int32).toInt64) - 1), .long 0, .long r12.1], h)) rfl ?_
    obtain ⟨r14, hr14, hF⟩ := ob_some hF
    refine en_si (r := []) (by decide +kernel : u_at kl_250 105 = some (.invokestatic 161, [170, 3])) rfl rfl (Nat.le_of_ble_eq_true rfl) (e_170 (D := D) (by omega) hW hr14) (fun h' q => ?_)
    subst q
    obtain ⟨t15, hX, hK⟩ := ob_some hF
    have j16 : ∀ h : UH, HW (mkw c0 c1 c2 c3 c4 c5 c6 c7 c8 c9 c10 c11 r12.2 c13) d h → Ends (EX D) (u_at kl_250) (129, [some (.ref a0), some (.int x1), some (.int x2), none, some (.int x4), some (.long r12.1), none], [.int t15], h) QQ := by
      intro h hW
      have hF := hK
      obtain rfl := Option.some.inj hF
      exact en_ret (by decide +kernel : u_at kl_250 129 = some (.ireturn, [0])) rfl (hQ _ hW)
    have hF := hX
    refine en_if_eq (by decide +kernel : u_at kl_250 108 = some (.ifCond .eq 20, [128])) (fun b17 => ?_) (fun b17 => ?_)
    · replace hF := i_pos b17 hF
      refine en_segs [(128, .iconst (-1), [])] (by decide +kernel) (y := (129, [some (.ref a0), some (.int x1), some (.int x2), none, some (.int x4), some (.long r12.1), none], [.int (-1)], h)) rfl ?_
      obtain rfl := Option.some.inj hF
      exact j16 _ hW
    · replace hF := i_neg b17 hF
      refine en_segs [(111, .aload_n 0, []), (112, .iload_n 2, []), (113, .lload 5, []), (115, .l2i, [])] (by decide +kernel) (y := (116, [some (.ref a0), some (.int x1), some (.int x2), none, some (.int x4), some (.long r12.1), none], [.int ((r12.1 : Int64).toInt32), .int x2, .ref a0], h)) rfl ?_
      obtain ⟨r18, hr18, hF⟩ := ob_some hF
      refine en_vi (r := []) (by decide +kernel : u_at kl_250 116 = some (.invokevirtual 394, [241, 2, 12])) hW ha0 rfl rfl (Nat.le_of_ble_eq_true rfl) (e_241 (D := D) (by omega) hW ha0 hr18) (fun h' q => ?_)
      subst q
      refine en_if_eq (by decide +kernel : u_at kl_250 119 = some (.ifCond .eq 9, [128])) (fun b19 => ?_) (fun b19 => ?_)
      · replace hF := i_pos b19 hF
        refine en_segs [(128, .iconst (-1), [])] (by decide +kernel) (y := (129, [some (.ref a0), some (.int x1), some (.int x2), none, some (.int x4), some (.long r12.1), none], [.int (-1)], h)) rfl ?_
        obtain rfl := Option.some.inj hF
        exact j16 _ hW
      · replace hF := i_neg b19 hF
        refine en_segs [(122, .lload 5, []), (124, .l2i, []), (125, .goto 4, [129])] (by decide +kernel) (y := (129, [some (.ref a0), some (.int x1), some (.int x2), none, some (.int x4), some (.long r12.1), none], [.int ((r12.1 : Int64).toInt32)], h)) rfl ?_
        obtain rfl := Option.some.inj hF
        exact j16 _ hW
def F_250 (c12 : Cl) (a0 : Nat) (p1 : Int32) (p2 : Int32) : Option (Int32 × Cl) :=
  F_249 c12 a0 p2 >>= fun r1 =>
  G_250 a0 0 [p1, p2, 0] [] [] r1
set_option maxRecDepth 100000 in
set_option maxHeartbeats 4000000 in
/-- HeadCountsModel.wouldBy -/
theorem e_250 {D : Nat} {c0 c1 c2 c3 c4 c5 c6 c7 c8 c9 c10 c11 c12 c13 : Cl} {d : Ad} {h : UH} {a0 : Nat} {p1 : Int32} {p2 : Int32} {r : (Int32 × Cl)} (hD : 8 ≤ D) (hW : HW (mkw c0 c1 c2 c3 c4 c5 c6 c7 c8 c9 c10 c11 c12 c13) d h) (ha0 : aK d a0 = (0, 12, 0)) (hF : F_250 c12 a0 p1 p2 = some r) : ∃ q, EX D 250 [.ref a0, .int p1, .int p2] h q ∧ q.1 = some (.int r.1) ∧ HW (mkw c0 c1 c2 c3 c4 c5 c6 c7 c8 c9 c10 c11 r.2 c13) d q.2 := by
  obtain ⟨D, rfl⟩ : ∃ E, D = E + 1 := ⟨D - 1, by omega⟩
  unfold F_250 at hF
  refine ex_in (kl := kl_250) (nL := 7) rfl (by decide +kernel) (Nat.le_of_ble_eq_true rfl) ?_
  obtain ⟨QQ, hQQ⟩ : ∃ QQ : UR → Prop, QQ = (fun q : UR => q.1 = some (.int r.1) ∧ HW (mkw c0 c1 c2 c3 c4 c5 c6 c7 c8 c9 c10 c11 r.2 c13) d q.2) := ⟨_, rfl⟩
  rw [← hQQ]
  have hQ : ∀ h' : UH, HW (mkw c0 c1 c2 c3 c4 c5 c6 c7 c8 c9 c10 c11 r.2 c13) d h' → QQ (some (.int r.1), h') := fun h' p => by rw [hQQ]; exact ⟨rfl, p⟩
  clear hQQ
  show Ends (EX D) (u_at kl_250) (0, [some (.ref a0), some (.int p1), some (.int p2), none, none, none, none], [], h) QQ
  refine en_segs [(0, .aload_n 0, []), (1, .iload_n 2, [])] (by decide +kernel) (y := (2, [some (.ref a0), some (.int p1), some (.int p2), none, none, none, none], [.int p2, .ref a0], h)) rfl ?_
  obtain ⟨r1, hr1, hF⟩ := ob_some hF
  refine en_vv (r := []) (by decide +kernel : u_at kl_250 2 = some (.invokevirtual 414, [249, 1, 12])) hW ha0 rfl rfl (Nat.le_of_ble_eq_true rfl) (e_249 (D := D) (by omega) hW ha0 hr1) (fun h hW => ?_)
  have hW : HW (mkw c0 c1 c2 c3 c4 c5 c6 c7 c8 c9 c10 c11 r1 c13) d h := hW
  refine en_segs [(5, .iconst 0, []), (6, .istore_n 3, [])] (by decide +kernel) (y := (7, [some (.ref a0), some (.int p1), some (.int p2), some (.int 0), none, none, none], [], h)) rfl ?_
  exact (g_250 (D := D) hD ha0 _ _ _ _ _ _ hF).1 _ _ _ rfl rfl rfl rfl  _ hW _ hQ
def F_251 (c12 : Cl) (a0 : Nat) (p1 : Int32) (p2 : Int32) : Option (Int32 × Cl) :=
  F_213 c12 a0 p1 >>= fun r1 =>
  if r1 = 0 then
  some ((-1), c12)
  else
  F_221 c12 a0 p2 >>= fun r3 =>
  if r3 = 0 then
  some ((-1), c12)
  else
  F_224 c12 a0 p2 >>= fun r5 =>
  if r5 = 0 then
  some ((-1), c12)
  else
  F_250 c12 a0 p1 p2 >>= fun r7 =>
  ((if 0 ≤ r7.1 then
  some r7.1
  else
  some (-2)) : Option (Int32)) >>= fun (t8 : Int32) =>
  some (t8, r7.2)
set_option maxRecDepth 100000 in
set_option maxHeartbeats 4000000 in
/-- HeadCountsModel.would -/
theorem e_251 {D : Nat} {c0 c1 c2 c3 c4 c5 c6 c7 c8 c9 c10 c11 c12 c13 : Cl} {d : Ad} {h : UH} {a0 : Nat} {p1 : Int32} {p2 : Int32} {r : (Int32 × Cl)} (hD : 9 ≤ D) (hW : HW (mkw c0 c1 c2 c3 c4 c5 c6 c7 c8 c9 c10 c11 c12 c13) d h) (ha0 : aK d a0 = (0, 12, 0)) (hF : F_251 c12 a0 p1 p2 = some r) : ∃ q, EX D 251 [.ref a0, .int p1, .int p2] h q ∧ q.1 = some (.int r.1) ∧ HW (mkw c0 c1 c2 c3 c4 c5 c6 c7 c8 c9 c10 c11 r.2 c13) d q.2 := by
  obtain ⟨D, rfl⟩ : ∃ E, D = E + 1 := ⟨D - 1, by omega⟩
  unfold F_251 at hF
  refine ex_in (kl := kl_251) (nL := 4) rfl (by decide +kernel) (Nat.le_of_ble_eq_true rfl) ?_
  obtain ⟨QQ, hQQ⟩ : ∃ QQ : UR → Prop, QQ = (fun q : UR => q.1 = some (.int r.1) ∧ HW (mkw c0 c1 c2 c3 c4 c5 c6 c7 c8 c9 c10 c11 r.2 c13) d q.2) := ⟨_, rfl⟩
  rw [← hQQ]
  have hQ : ∀ h' : UH, HW (mkw c0 c1 c2 c3 c4 c5 c6 c7 c8 c9 c10 c11 r.2 c13) d h' → QQ (some (.int r.1), h') := fun h' p => by rw [hQQ]; exact ⟨rfl, p⟩
  clear hQQ
  show Ends (EX D) (u_at kl_251) (0, [some (.ref a0), some (.int p1), some (.int p2), none], [], h) QQ
  refine en_segs [(0, .aload_n 0, []), (1, .iload_n 1, [])] (by decide +kernel) (y := (2, [some (.ref a0), some (.int p1), some (.int p2), none], [.int p1, .ref a0], h)) rfl ?_
  obtain ⟨r1, hr1, hF⟩ := ob_some hF
  refine en_vi (r := []) (by decide +kernel : u_at kl_251 2 = some (.invokevirtual 421, [213, 1, 12])) hW ha0 rfl rfl (Nat.le_of_ble_eq_true rfl) (e_213 (D := D) (by omega) hW ha0 hr1) (fun h' q => ?_)
  subst q
  refine en_if_eq (by decide +kernel : u_at kl_251 5 = some (.ifCond .eq 19, [24])) (fun b2 => ?_) (fun b2 => ?_)
  · replace hF := i_pos b2 hF
    refine en_segs [(24, .iconst (-1), [])] (by decide +kernel) (y := (25, [some (.ref a0), some (.int p1), some (.int p2), none], [.int (-1)], h)) rfl ?_
    obtain rfl := Option.some.inj hF
    exact en_ret (by decide +kernel : u_at kl_251 25 = some (.ireturn, [0])) rfl (hQ _ hW)
  · replace hF := i_neg b2 hF
    refine en_segs [(8, .aload_n 0, []), (9, .iload_n 2, [])] (by decide +kernel) (y := (10, [some (.ref a0), some (.int p1), some (.int p2), none], [.int p2, .ref a0], h)) rfl ?_
    obtain ⟨r3, hr3, hF⟩ := ob_some hF
    refine en_vi (r := []) (by decide +kernel : u_at kl_251 10 = some (.invokevirtual 367, [221, 1, 12])) hW ha0 rfl rfl (Nat.le_of_ble_eq_true rfl) (e_221 (D := D) (by omega) hW ha0 hr3) (fun h' q => ?_)
    subst q
    refine en_if_eq (by decide +kernel : u_at kl_251 13 = some (.ifCond .eq 11, [24])) (fun b4 => ?_) (fun b4 => ?_)
    · replace hF := i_pos b4 hF
      refine en_segs [(24, .iconst (-1), [])] (by decide +kernel) (y := (25, [some (.ref a0), some (.int p1), some (.int p2), none], [.int (-1)], h)) rfl ?_
      obtain rfl := Option.some.inj hF
      exact en_ret (by decide +kernel : u_at kl_251 25 = some (.ireturn, [0])) rfl (hQ _ hW)
    · replace hF := i_neg b4 hF
      refine en_segs [(16, .aload_n 0, []), (17, .iload_n 2, [])] (by decide +kernel) (y := (18, [some (.ref a0), some (.int p1), some (.int p2), none], [.int p2, .ref a0], h)) rfl ?_
      obtain ⟨r5, hr5, hF⟩ := ob_some hF
      refine en_vi (r := []) (by decide +kernel : u_at kl_251 18 = some (.invokevirtual 346, [224, 1, 12])) hW ha0 rfl rfl (Nat.le_of_ble_eq_true rfl) (e_224 (D := D) (by omega) hW ha0 hr5) (fun h' q => ?_)
      subst q
      refine en_if_ne (by decide +kernel : u_at kl_251 21 = some (.ifCond .ne 5, [26])) (fun b6 => ?_) (fun b6 => ?_)
      · replace hF := i_pos b6 hF
        refine en_segs [(24, .iconst (-1), [])] (by decide +kernel) (y := (25, [some (.ref a0), some (.int p1), some (.int p2), none], [.int (-1)], h)) rfl ?_
        obtain rfl := Option.some.inj hF
        exact en_ret (by decide +kernel : u_at kl_251 25 = some (.ireturn, [0])) rfl (hQ _ hW)
      · replace hF := i_neg b6 hF
        refine en_segs [(26, .aload_n 0, []), (27, .iload_n 1, []), (28, .iload_n 2, [])] (by decide +kernel) (y := (29, [some (.ref a0), some (.int p1), some (.int p2), none], [.int p2, .int p1, .ref a0], h)) rfl ?_
        obtain ⟨r7, hr7, hF⟩ := ob_some hF
        refine en_vi (r := []) (by decide +kernel : u_at kl_251 29 = some (.invokevirtual 424, [250, 2, 12])) hW ha0 rfl rfl (Nat.le_of_ble_eq_true rfl) (e_250 (D := D) (by omega) hW ha0 hr7) (fun h hW => ?_)
        have hW : HW (mkw c0 c1 c2 c3 c4 c5 c6 c7 c8 c9 c10 c11 r7.2 c13) d h := hW
        refine en_segs [(32, .istore_n 3, []), (33, .iload_n 3, [])] (by decide +kernel) (y := (34, [some (.ref a0), some (.int p1), some (.int p2), some (.int r7.1)], [.int r7.1], h)) rfl ?_
        obtain ⟨t8, hX, hK⟩ := ob_some hF
        have j9 : ∀ h : UH, HW (mkw c0 c1 c2 c3 c4 c5 c6 c7 c8 c9 c10 c11 r7.2 c13) d h → Ends (EX D) (u_at kl_251) (43, [some (.ref a0), some (.int p1), some (.int p2), some (.int r7.1)], [.int t8], h) QQ := by
          intro h hW
          have hF := hK
          obtain rfl := Option.some.inj hF
          exact en_ret (by decide +kernel : u_at kl_251 43 = some (.ireturn, [0])) rfl (hQ _ hW)
        have hF := hX
        refine en_if_ge (by decide +kernel : u_at kl_251 34 = some (.ifCond .ge 8, [42])) (fun b10 => ?_) (fun b10 => ?_)
        · replace hF := i_pos b10 hF
          refine en_segs [(42, .iload_n 3, [])] (by decide +kernel) (y := (43, [some (.ref a0), some (.int p1), some (.int p2), some (.int r7.1)], [.int r7.1], h)) rfl ?_
          obtain rfl := Option.some.inj hF
          exact j9 _ hW
        · replace hF := i_neg b10 hF
          refine en_segs [(37, .bipush (-2), []), (39, .goto 4, [43])] (by decide +kernel) (y := (43, [some (.ref a0), some (.int p1), some (.int p2), some (.int r7.1)], [.int (-2)], h)) rfl ?_
          obtain rfl := Option.some.inj hF
          exact j9 _ hW
def G_252 (a0 : Nat) (lab : Nat) (xs : List Int32) (ys : List Int64) (zs : List Nat) (c12 : Cl) : Option Cl := match lab, xs, ys, zs with
  | 0, [x1, x2, x3], [], [] =>
    ald (cA c12 20 a0) 221 2 >>= fun v1 =>
    if v1 ≤ x3 then
    G_252 a0 1 [] [] [] c12
    else
    if x2 = 0 then
    F_224 c12 a0 x3 >>= fun r4 =>
    ((if r4 = 0 then
    some ((-1), c12)
    else
    F_250 c12 a0 x1 x3 >>= fun r12 =>
    some (r12.1, r12.2)) : Option (Int32 × Cl)) >>= fun (t5 : Int32 × Cl) =>
    ((if 0 ≤ t5.1 then
    F_244 t5.2 a0 x3 t5.1 >>= fun r10 =>
    some (1, r10)
    else
    some (x2, t5.2)) : Option (Int32 × Cl)) >>= fun (t7 : Int32 × Cl) =>
    G_252 a0 0 [x1, t7.1, x3 + 1] [] [] t7.2
    else
    G_252 a0 1 [] [] [] c12
  | 1, [], [], [] =>
    F_242 c12 a0 >>= fun r13 =>
    F_227 r13 a0 >>= fun r14 =>
    some r14
  | _, _, _, _ => none
partial_fixpoint
set_option maxRecDepth 100000 in
set_option maxHeartbeats 4000000 in
theorem g_252 {D : Nat} (hD : 9 ≤ D + 1) {c0 c1 c2 c3 c4 c5 c6 c7 c8 c9 c10 c11 c13 : Cl} {d : Ad} {a0 : Nat} (ha0 : aK d a0 = (0, 12, 0)) : ∀ (lab : Nat) (xs : List Int32) (ys : List Int64) (zs : List Nat) (c12 : Cl) (r : Cl), G_252 a0 lab xs ys zs c12 = some r →
    (∀ (x1 : Int32) (x2 : Int32) (x3 : Int32), lab = 0 → xs = [x1, x2, x3] → ys = [] → zs = [] → ∀ h : UH, HW (mkw c0 c1 c2 c3 c4 c5 c6 c7 c8 c9 c10 c11 c12 c13) d h → ∀ QQ : UR → Prop, (∀ h' : UH, HW (mkw c0 c1 c2 c3 c4 c5 c6 c7 c8 c9 c10 c11 r c13) d h' → QQ (none, h')) → Ends (EX D) (u_at kl_252) (4, [some (.ref a0), some (.int x1), some (.int x2), some (.int x3), none], [], h) QQ) ∧
    (∀ (_ : Unit), lab = 1 → xs = [] → ys = [] → zs = [] → ∀ h : UH, HW (mkw c0 c1 c2 c3 c4 c5 c6 c7 c8 c9 c10 c11 c12 c13) d h → ∀ QQ : UR → Prop, (∀ h' : UH, HW (mkw c0 c1 c2 c3 c4 c5 c6 c7 c8 c9 c10 c11 r c13) d h' → QQ (none, h')) → Ends (EX D) (u_at kl_252) (61, [some (.ref a0), none, none, none, none], [], h) QQ) := by
  refine G_252.partial_correctness _ (motive := fun lab xs ys zs c12 r =>
    (∀ (x1 : Int32) (x2 : Int32) (x3 : Int32), lab = 0 → xs = [x1, x2, x3] → ys = [] → zs = [] → ∀ h : UH, HW (mkw c0 c1 c2 c3 c4 c5 c6 c7 c8 c9 c10 c11 c12 c13) d h → ∀ QQ : UR → Prop, (∀ h' : UH, HW (mkw c0 c1 c2 c3 c4 c5 c6 c7 c8 c9 c10 c11 r c13) d h' → QQ (none, h')) → Ends (EX D) (u_at kl_252) (4, [some (.ref a0), some (.int x1), some (.int x2), some (.int x3), none], [], h) QQ) ∧
    (∀ (_ : Unit), lab = 1 → xs = [] → ys = [] → zs = [] → ∀ h : UH, HW (mkw c0 c1 c2 c3 c4 c5 c6 c7 c8 c9 c10 c11 c12 c13) d h → ∀ QQ : UR → Prop, (∀ h' : UH, HW (mkw c0 c1 c2 c3 c4 c5 c6 c7 c8 c9 c10 c11 r c13) d h' → QQ (none, h')) → Ends (EX D) (u_at kl_252) (61, [some (.ref a0), none, none, none, none], [], h) QQ)) ?_
  intro G ih lab xs ys zs c12 r hF
  refine ⟨?_, ?_⟩
  · intro x1 x2 x3 e1 e2 e3 e4 h hW QQ hQ
    subst e1 e2 e3 e4
    refine en_segs [(4, .iload_n 3, []), (5, .aload_n 0, [])] (by decide +kernel) (y := (6, [some (.ref a0), some (.int x1), some (.int x2), some (.int x3), none], [.ref a0, .int x3], h)) rfl ?_
    refine en_get (by decide +kernel : u_at kl_252 6 = some (.getfield 39, [12, 20])) hW ha0 (by decide) rfl ?_
    refine en_segs [(9, .iconst 2, [])] (by decide +kernel) (y := (10, [some (.ref a0), some (.int x1), some (.int x2), some (.int x3), none], [.int 2, .ref (aP d 12 20 a0), .int x3], h)) rfl ?_
    obtain ⟨v1, hv1, hF⟩ := ob_some hF
    refine en_iald (by decide +kernel : u_at kl_252 10 = some (.iaload, [])) hW ha0 rfl (by decide) hv1 ?_
    refine en_ic_ge (by decide +kernel : u_at kl_252 11 = some (.if_icmp .ge 50, [61])) (fun b2 => ?_) (fun b2 => ?_)
    · replace hF := i_pos b2 hF
      refine en_fg (fg_k (fg_d (fg_d (fg_d (fg_k fg_0))))) ?_
      exact (ih _ _ _ _ _ _ hF).2 () rfl rfl rfl rfl  _ hW _ hQ
    · replace hF := i_neg b2 hF
      refine en_segs [(14, .iload_n 2, [])] (by decide +kernel) (y := (15, [some (.ref a0), some (.int x1), some (.int x2), some (.int x3), none], [.int x2], h)) rfl ?_
      refine en_if_ne (by decide +kernel : u_at kl_252 15 = some (.ifCond .ne 46, [61])) (fun b3 => ?_) (fun b3 => ?_)
      · replace hF := i_pos b3 hF
        refine en_segs [(18, .aload_n 0, []), (19, .iload_n 3, [])] (by decide +kernel) (y := (20, [some (.ref a0), some (.int x1), some (.int x2), some (.int x3), none], [.int x3, .ref a0], h)) rfl ?_
        obtain ⟨r4, hr4, hF⟩ := ob_some hF
        refine en_vi (r := []) (by decide +kernel : u_at kl_252 20 = some (.invokevirtual 346, [224, 1, 12])) hW ha0 rfl rfl (Nat.le_of_ble_eq_true rfl) (e_224 (D := D) (by omega) hW ha0 hr4) (fun h' q => ?_)
        subst q
        obtain ⟨t5, hX, hK⟩ := ob_some hF
        have j6 : ∀ h : UH, HW (mkw c0 c1 c2 c3 c4 c5 c6 c7 c8 c9 c10 c11 t5.2 c13) d h → Ends (EX D) (u_at kl_252) (36, [some (.ref a0), some (.int x1), some (.int x2), some (.int x3), none], [.int t5.1], h) QQ := by
          intro h hW
          have hF := hK
          refine en_segs [(36, .istore 4, []), (38, .iload 4, [])] (by decide +kernel) (y := (40, [some (.ref a0), some (.int x1), some (.int x2), some (.int x3), some (.int t5.1)], [.int t5.1], h)) rfl ?_
          obtain ⟨t7, hX, hK⟩ := ob_some hF
          have j8 : ∀ h : UH, HW (mkw c0 c1 c2 c3 c4 c5 c6 c7 c8 c9 c10 c11 t7.2 c13) d h → Ends (EX D) (u_at kl_252) (55, [some (.ref a0), some (.int x1), some (.int t7.1), some (.int x3), some (.int t5.1)], [], h) QQ := by
            intro h hW
            have hF := hK
            refine en_segs [(55, .iinc 3 1, []), (58, .goto (-54), [4])] (by decide +kernel) (y := (4, [some (.ref a0), some (.int x1), some (.int t7.1), some (.int (x3 + 1)), some (.int t5.1)], [], h)) rfl ?_
            refine en_fg (fg_k (fg_k (fg_k (fg_k (fg_d fg_0))))) ?_
            exact (ih _ _ _ _ _ _ hF).1 _ _ _ rfl rfl rfl rfl  _ hW _ hQ
          have hF := hX
          refine en_if_ge (by decide +kernel : u_at kl_252 40 = some (.ifCond .ge 6, [46])) (fun b9 => ?_) (fun b9 => ?_)
          · replace hF := i_pos b9 hF
            refine en_segs [(46, .aload_n 0, []), (47, .iload_n 3, []), (48, .iload 4, [])] (by decide +kernel) (y := (50, [some (.ref a0), some (.int x1), some (.int x2), some (.int x3), some (.int t5.1)], [.int t5.1, .int x3, .ref a0], h)) rfl ?_
            obtain ⟨r10, hr10, hF⟩ := ob_some hF
            refine en_vv (r := []) (by decide +kernel : u_at kl_252 50 = some (.invokevirtual 400, [244, 2, 12])) hW ha0 rfl rfl (Nat.le_of_ble_eq_true rfl) (e_244 (D := D) (by omega) hW ha0 hr10) (fun h hW => ?_)
            have hW : HW (mkw c0 c1 c2 c3 c4 c5 c6 c7 c8 c9 c10 c11 r10 c13) d h := hW
            refine en_segs [(53, .iconst 1, []), (54, .istore_n 2, [])] (by decide +kernel) (y := (55, [some (.ref a0), some (.int x1), some (.int 1), some (.int x3), some (.int t5.1)], [], h)) rfl ?_
            obtain rfl := Option.some.inj hF
            exact j8 _ hW
          · replace hF := i_neg b9 hF
            refine en_segs [(43, .goto 12, [55])] (by decide +kernel) (y := (55, [some (.ref a0), some (.int x1), some (.int x2), some (.int x3), some (.int t5.1)], [], h)) rfl ?_
            obtain rfl := Option.some.inj hF
            exact j8 _ hW
        have hF := hX
        refine en_if_eq (by decide +kernel : u_at kl_252 23 = some (.ifCond .eq 12, [35])) (fun b11 => ?_) (fun b11 => ?_)
        · replace hF := i_pos b11 hF
          refine en_segs [(35, .iconst (-1), [])] (by decide +kernel) (y := (36, [some (.ref a0), some (.int x1), some (.int x2), some (.int x3), none], [.int (-1)], h)) rfl ?_
          obtain rfl := Option.some.inj hF
          exact j6 _ hW
        · replace hF := i_neg b11 hF
          refine en_segs [(26, .aload_n 0, []), (27, .iload_n 1, []), (28, .iload_n 3, [])] (by decide +kernel) (y := (29, [some (.ref a0), some (.int x1), some (.int x2), some (.int x3), none], [.int x3, .int x1, .ref a0], h)) rfl ?_
          obtain ⟨r12, hr12, hF⟩ := ob_some hF
          refine en_vi (r := []) (by decide +kernel : u_at kl_252 29 = some (.invokevirtual 424, [250, 2, 12])) hW ha0 rfl rfl (Nat.le_of_ble_eq_true rfl) (e_250 (D := D) (by omega) hW ha0 hr12) (fun h hW => ?_)
          have hW : HW (mkw c0 c1 c2 c3 c4 c5 c6 c7 c8 c9 c10 c11 r12.2 c13) d h := hW
          refine en_segs [(32, .goto 4, [36])] (by decide +kernel) (y := (36, [some (.ref a0), some (.int x1), some (.int x2), some (.int x3), none], [.int r12.1], h)) rfl ?_
          obtain rfl := Option.some.inj hF
          exact j6 _ hW
      · replace hF := i_neg b3 hF
        refine en_fg (fg_k (fg_d (fg_d (fg_d (fg_k fg_0))))) ?_
        exact (ih _ _ _ _ _ _ hF).2 () rfl rfl rfl rfl  _ hW _ hQ
  · intro _ e1 e2 e3 e4 h hW QQ hQ
    subst e1 e2 e3 e4
    refine en_segs [(61, .aload_n 0, [])] (by decide +kernel) (y := (62, [some (.ref a0), none, none, none, none], [.ref a0], h)) rfl ?_
    obtain ⟨r13, hr13, hF⟩ := ob_some hF
    refine en_vv (r := []) (by decide +kernel : u_at kl_252 62 = some (.invokevirtual 403, [242, 0, 12])) hW ha0 rfl rfl (Nat.le_of_ble_eq_true rfl) (e_242 (D := D) (by omega) hW ha0 hr13) (fun h hW => ?_)
    have hW : HW (mkw c0 c1 c2 c3 c4 c5 c6 c7 c8 c9 c10 c11 r13 c13) d h := hW
    refine en_segs [(65, .aload_n 0, [])] (by decide +kernel) (y := (66, [some (.ref a0), none, none, none, none], [.ref a0], h)) rfl ?_
    obtain ⟨r14, hr14, hF⟩ := ob_some hF
    refine en_vv (r := []) (by decide +kernel : u_at kl_252 66 = some (.invokevirtual 325, [227, 0, 12])) hW ha0 rfl rfl (Nat.le_of_ble_eq_true rfl) (e_227 (D := D) (by omega) hW ha0 hr14) (fun h hW => ?_)
    have hW : HW (mkw c0 c1 c2 c3 c4 c5 c6 c7 c8 c9 c10 c11 r14 c13) d h := hW
    obtain rfl := Option.some.inj hF
    exact en_ret (by decide +kernel : u_at kl_252 69 = some (.return_, [])) rfl (hQ _ hW)
def F_252 (c12 : Cl) (a0 : Nat) (p1 : Int32) : Option Cl :=
  G_252 a0 0 [p1, 0, 0] [] [] c12
set_option maxRecDepth 100000 in
set_option maxHeartbeats 4000000 in
/-- HeadCountsModel.passes -/
theorem e_252 {D : Nat} {c0 c1 c2 c3 c4 c5 c6 c7 c8 c9 c10 c11 c12 c13 : Cl} {d : Ad} {h : UH} {a0 : Nat} {p1 : Int32} {r : Cl} (hD : 9 ≤ D) (hW : HW (mkw c0 c1 c2 c3 c4 c5 c6 c7 c8 c9 c10 c11 c12 c13) d h) (ha0 : aK d a0 = (0, 12, 0)) (hF : F_252 c12 a0 p1 = some r) : ∃ q, EX D 252 [.ref a0, .int p1] h q ∧ q.1 = none ∧ HW (mkw c0 c1 c2 c3 c4 c5 c6 c7 c8 c9 c10 c11 r c13) d q.2 := by
  obtain ⟨D, rfl⟩ : ∃ E, D = E + 1 := ⟨D - 1, by omega⟩
  unfold F_252 at hF
  refine ex_in (kl := kl_252) (nL := 5) rfl (by decide +kernel) (Nat.le_of_ble_eq_true rfl) ?_
  obtain ⟨QQ, hQQ⟩ : ∃ QQ : UR → Prop, QQ = (fun q : UR => q.1 = none ∧ HW (mkw c0 c1 c2 c3 c4 c5 c6 c7 c8 c9 c10 c11 r c13) d q.2) := ⟨_, rfl⟩
  rw [← hQQ]
  have hQ : ∀ h' : UH, HW (mkw c0 c1 c2 c3 c4 c5 c6 c7 c8 c9 c10 c11 r c13) d h' → QQ (none, h') := fun h' p => by rw [hQQ]; exact ⟨rfl, p⟩
  clear hQQ
  show Ends (EX D) (u_at kl_252) (0, [some (.ref a0), some (.int p1), none, none, none], [], h) QQ
  refine en_segs [(0, .iconst 0, []), (1, .istore_n 2, []), (2, .iconst 0, []), (3, .istore_n 3, [])] (by decide +kernel) (y := (4, [some (.ref a0), some (.int p1), some (.int 0), some (.int 0), none], [], h)) rfl ?_
  exact (g_252 (D := D) hD ha0 _ _ _ _ _ _ hF).1 _ _ _ rfl rfl rfl rfl  _ hW _ hQ
def G_253 (a0 : Nat) (lab : Nat) (xs : List Int32) (ys : List Int64) (zs : List Nat) (c12 : Cl) : Option (Int32 × Cl) := match lab, xs, ys, zs with
  | 0, [x1, x2, x3], [], [] =>
    if x2 ≤ x3 then
    ald (cA c12 20 a0) 221 4 >>= fun v10 =>
    some (v10, c12)
    else
    F_239 c12 a0 >>= fun r11 =>
    F_252 r11 a0 x1 >>= fun r12 =>
    G_253 a0 0 [x1, x2, x3 + 1] [] [] r12
  | _, _, _, _ => none
partial_fixpoint
set_option maxRecDepth 100000 in
set_option maxHeartbeats 4000000 in
theorem g_253 {D : Nat} (hD : 10 ≤ D + 1) {c0 c1 c2 c3 c4 c5 c6 c7 c8 c9 c10 c11 c13 : Cl} {d : Ad} {a0 : Nat} (ha0 : aK d a0 = (0, 12, 0)) : ∀ (lab : Nat) (xs : List Int32) (ys : List Int64) (zs : List Nat) (c12 : Cl) (r : (Int32 × Cl)), G_253 a0 lab xs ys zs c12 = some r →
    (∀ (x1 : Int32) (x2 : Int32) (x3 : Int32), lab = 0 → xs = [x1, x2, x3] → ys = [] → zs = [] → ∀ h : UH, HW (mkw c0 c1 c2 c3 c4 c5 c6 c7 c8 c9 c10 c11 c12 c13) d h → ∀ QQ : UR → Prop, (∀ h' : UH, HW (mkw c0 c1 c2 c3 c4 c5 c6 c7 c8 c9 c10 c11 r.2 c13) d h' → QQ (some (.int r.1), h')) → Ends (EX D) (u_at kl_253) (45, [some (.ref a0), some (.int x1), some (.int x2), some (.int x3)], [], h) QQ) := by
  refine G_253.partial_correctness _ (motive := fun lab xs ys zs c12 r =>
    (∀ (x1 : Int32) (x2 : Int32) (x3 : Int32), lab = 0 → xs = [x1, x2, x3] → ys = [] → zs = [] → ∀ h : UH, HW (mkw c0 c1 c2 c3 c4 c5 c6 c7 c8 c9 c10 c11 c12 c13) d h → ∀ QQ : UR → Prop, (∀ h' : UH, HW (mkw c0 c1 c2 c3 c4 c5 c6 c7 c8 c9 c10 c11 r.2 c13) d h' → QQ (some (.int r.1), h')) → Ends (EX D) (u_at kl_253) (45, [some (.ref a0), some (.int x1), some (.int x2), some (.int x3)], [], h) QQ)) ?_
  intro G ih lab xs ys zs c12 r hF
  · intro x1 x2 x3 e1 e2 e3 e4 h hW QQ hQ
    subst e1 e2 e3 e4
    refine en_segs [(45, .iload_n 3, []), (46, .iload_n 2, [])] (by decide +kernel) (y := (47, [some (.ref a0), some (.int x1), some (.int x2), some (.int x3)], [.int x2, .int x3], h)) rfl ?_
    refine en_ic_ge (by decide +kernel : u_at kl_253 47 = some (.if_icmp .ge 18, [65])) (fun b9 => ?_) (fun b9 => ?_)
    · replace hF := i_pos b9 hF
      refine en_segs [(65, .aload_n 0, [])] (by decide +kernel) (y := (66, [some (.ref a0), some (.int x1), some (.int x2), some (.int x3)], [.ref a0], h)) rfl ?_
      refine en_get (by decide +kernel : u_at kl_253 66 = some (.getfield 39, [12, 20])) hW ha0 (by decide) rfl ?_
      refine en_segs [(69, .iconst 4, [])] (by decide +kernel) (y := (70, [some (.ref a0), some (.int x1), some (.int x2), some (.int x3)], [.int 4, .ref (aP d 12 20 a0)], h)) rfl ?_
      obtain ⟨v10, hv10, hF⟩ := ob_some hF
      refine en_iald (by decide +kernel : u_at kl_253 70 = some (.iaload, [])) hW ha0 rfl (by decide) hv10 ?_
      obtain rfl := Option.some.inj hF
      exact en_ret (by decide +kernel : u_at kl_253 71 = some (.ireturn, [0])) rfl (hQ _ hW)
    · replace hF := i_neg b9 hF
      refine en_segs [(50, .aload_n 0, [])] (by decide +kernel) (y := (51, [some (.ref a0), some (.int x1), some (.int x2), some (.int x3)], [.ref a0], h)) rfl ?_
      obtain ⟨r11, hr11, hF⟩ := ob_some hF
      refine en_vv (r := []) (by decide +kernel : u_at kl_253 51 = some (.invokevirtual 397, [239, 0, 12])) hW ha0 rfl rfl (Nat.le_of_ble_eq_true rfl) (e_239 (D := D) (by omega) hW ha0 hr11) (fun h hW => ?_)
      have hW : HW (mkw c0 c1 c2 c3 c4 c5 c6 c7 c8 c9 c10 c11 r11 c13) d h := hW
      refine en_segs [(54, .aload_n 0, []), (55, .iload_n 1, [])] (by decide +kernel) (y := (56, [some (.ref a0), some (.int x1), some (.int x2), some (.int x3)], [.int x1, .ref a0], h)) rfl ?_
      obtain ⟨r12, hr12, hF⟩ := ob_some hF
      refine en_vv (r := []) (by decide +kernel : u_at kl_253 56 = some (.invokevirtual 429, [252, 1, 12])) hW ha0 rfl rfl (Nat.le_of_ble_eq_true rfl) (e_252 (D := D) (by omega) hW ha0 hr12) (fun h hW => ?_)
      have hW : HW (mkw c0 c1 c2 c3 c4 c5 c6 c7 c8 c9 c10 c11 r12 c13) d h := hW
      refine en_segs [(59, .iinc 3 1, []), (62, .goto (-17), [45])] (by decide +kernel) (y := (45, [some (.ref a0), some (.int x1), some (.int x2), some (.int (x3 + 1))], [], h)) rfl ?_
      exact (ih _ _ _ _ _ _ hF) _ _ _ rfl rfl rfl rfl  _ hW _ hQ
def F_253 (c12 : Cl) (a0 : Nat) (p1 : Int32) (p2 : Int32) : Option (Int32 × Cl) :=
  F_218 c12 a0 >>= fun r1 =>
  if r1 = 0 then
  some ((-1), c12)
  else
  F_213 c12 a0 p1 >>= fun r3 =>
  if r3 = 0 then
  some ((-1), c12)
  else
  F_170 ((p2 : Int32).toInt64) 1 60 >>= fun r5 =>
  if r5 = 0 then
  some ((-1), c12)
  else
  ald (cA c12 20 a0) 221 4 >>= fun v7 =>
  if (v7 + p2) ≤ 9999 then
  G_253 a0 0 [p1, p2, 0] [] [] c12
  else
  some ((-1), c12)
set_option maxRecDepth 100000 in
set_option maxHeartbeats 4000000 in
/-- HeadCountsModel.run -/
theorem e_253 {D : Nat} {c0 c1 c2 c3 c4 c5 c6 c7 c8 c9 c10 c11 c12 c13 : Cl} {d : Ad} {h : UH} {a0 : Nat} {p1 : Int32} {p2 : Int32} {r : (Int32 × Cl)} (hD : 10 ≤ D) (hW : HW (mkw c0 c1 c2 c3 c4 c5 c6 c7 c8 c9 c10 c11 c12 c13) d h) (ha0 : aK d a0 = (0, 12, 0)) (hF : F_253 c12 a0 p1 p2 = some r) : ∃ q, EX D 253 [.ref a0, .int p1, .int p2] h q ∧ q.1 = some (.int r.1) ∧ HW (mkw c0 c1 c2 c3 c4 c5 c6 c7 c8 c9 c10 c11 r.2 c13) d q.2 := by
  obtain ⟨D, rfl⟩ : ∃ E, D = E + 1 := ⟨D - 1, by omega⟩
  unfold F_253 at hF
  refine ex_in (kl := kl_253) (nL := 4) rfl (by decide +kernel) (Nat.le_of_ble_eq_true rfl) ?_
  obtain ⟨QQ, hQQ⟩ : ∃ QQ : UR → Prop, QQ = (fun q : UR => q.1 = some (.int r.1) ∧ HW (mkw c0 c1 c2 c3 c4 c5 c6 c7 c8 c9 c10 c11 r.2 c13) d q.2) := ⟨_, rfl⟩
  rw [← hQQ]
  have hQ : ∀ h' : UH, HW (mkw c0 c1 c2 c3 c4 c5 c6 c7 c8 c9 c10 c11 r.2 c13) d h' → QQ (some (.int r.1), h') := fun h' p => by rw [hQQ]; exact ⟨rfl, p⟩
  clear hQQ
  show Ends (EX D) (u_at kl_253) (0, [some (.ref a0), some (.int p1), some (.int p2), none], [], h) QQ
  refine en_segs [(0, .aload_n 0, [])] (by decide +kernel) (y := (1, [some (.ref a0), some (.int p1), some (.int p2), none], [.ref a0], h)) rfl ?_
  obtain ⟨r1, hr1, hF⟩ := ob_some hF
  refine en_vi (r := []) (by decide +kernel : u_at kl_253 1 = some (.invokevirtual 409, [218, 0, 12])) hW ha0 rfl rfl (Nat.le_of_ble_eq_true rfl) (e_218 (D := D) (by omega) hW ha0 hr1) (fun h' q => ?_)
  subst q
  refine en_if_eq (by decide +kernel : u_at kl_253 4 = some (.ifCond .eq 37, [41])) (fun b2 => ?_) (fun b2 => ?_)
  · replace hF := i_pos b2 hF
    refine en_segs [(41, .iconst (-1), [])] (by decide +kernel) (y := (42, [some (.ref a0), some (.int p1), some (.int p2), none], [.int (-1)], h)) rfl ?_
    obtain rfl := Option.some.inj hF
    exact en_ret (by decide +kernel : u_at kl_253 42 = some (.ireturn, [0])) rfl (hQ _ hW)
  · replace hF := i_neg b2 hF
    refine en_segs [(7, .aload_n 0, []), (8, .iload_n 1, [])] (by decide +kernel) (y := (9, [some (.ref a0), some (.int p1), some (.int p2), none], [.int p1, .ref a0], h)) rfl ?_
    obtain ⟨r3, hr3, hF⟩ := ob_some hF
    refine en_vi (r := []) (by decide +kernel : u_at kl_253 9 = some (.invokevirtual 421, [213, 1, 12])) hW ha0 rfl rfl (Nat.le_of_ble_eq_true rfl) (e_213 (D := D) (by omega) hW ha0 hr3) (fun h' q => ?_)
    subst q
    refine en_if_eq (by decide +kernel : u_at kl_253 12 = some (.ifCond .eq 29, [41])) (fun b4 => ?_) (fun b4 => ?_)
    · replace hF := i_pos b4 hF
      refine en_segs [(41, .iconst (-1), [])] (by decide +kernel) (y := (42, [some (.ref a0), some (.int p1), some (.int p2), none], [.int (-1)], h)) rfl ?_
      obtain rfl := Option.some.inj hF
      exact en_ret (by decide +kernel : u_at kl_253 42 = some (.ireturn, [0])) rfl (hQ _ hW)
    · replace hF := i_neg b4 hF
      refine en_segs [(15, .iload_n 2, []), (16, .i2l, []), (17, .lconst 1, []), (18, .ldc2_w 427, [60])] (by decide +kernel) (y := (21, [some (.ref a0), some (.int p1), some (.int p2), none], [.long 60, .long 1, .long ((p2 : Int32).toInt64)], h)) rfl ?_
      obtain ⟨r5, hr5, hF⟩ := ob_some hF
      refine en_si (r := []) (by decide +kernel : u_at kl_253 21 = some (.invokestatic 161, [170, 3])) rfl rfl (Nat.le_of_ble_eq_true rfl) (e_170 (D := D) (by omega) hW hr5) (fun h' q => ?_)
      subst q
      refine en_if_eq (by decide +kernel : u_at kl_253 24 = some (.ifCond .eq 17, [41])) (fun b6 => ?_) (fun b6 => ?_)
      · replace hF := i_pos b6 hF
        refine en_segs [(41, .iconst (-1), [])] (by decide +kernel) (y := (42, [some (.ref a0), some (.int p1), some (.int p2), none], [.int (-1)], h)) rfl ?_
        obtain rfl := Option.some.inj hF
        exact en_ret (by decide +kernel : u_at kl_253 42 = some (.ireturn, [0])) rfl (hQ _ hW)
      · replace hF := i_neg b6 hF
        refine en_segs [(27, .aload_n 0, [])] (by decide +kernel) (y := (28, [some (.ref a0), some (.int p1), some (.int p2), none], [.ref a0], h)) rfl ?_
        refine en_get (by decide +kernel : u_at kl_253 28 = some (.getfield 39, [12, 20])) hW ha0 (by decide) rfl ?_
        refine en_segs [(31, .iconst 4, [])] (by decide +kernel) (y := (32, [some (.ref a0), some (.int p1), some (.int p2), none], [.int 4, .ref (aP d 12 20 a0)], h)) rfl ?_
        obtain ⟨v7, hv7, hF⟩ := ob_some hF
        refine en_iald (by decide +kernel : u_at kl_253 32 = some (.iaload, [])) hW ha0 rfl (by decide) hv7 ?_
        refine en_segs [(33, .iload_n 2, []), (34, .iadd, []), (35, .sipush 9999, [])] (by decide +kernel) (y := (38, [some (.ref a0), some (.int p1), some (.int p2), none], [.int 9999, .int (v7 + p2)], h)) rfl ?_
        refine en_ic_le (by decide +kernel : u_at kl_253 38 = some (.if_icmp .le 5, [43])) (fun b8 => ?_) (fun b8 => ?_)
        · replace hF := i_pos b8 hF
          refine en_segs [(43, .iconst 0, []), (44, .istore_n 3, [])] (by decide +kernel) (y := (45, [some (.ref a0), some (.int p1), some (.int p2), some (.int 0)], [], h)) rfl ?_
          exact (g_253 (D := D) hD ha0 _ _ _ _ _ _ hF) _ _ _ rfl rfl rfl rfl  _ hW _ hQ
        · replace hF := i_neg b8 hF
          refine en_segs [(41, .iconst (-1), [])] (by decide +kernel) (y := (42, [some (.ref a0), some (.int p1), some (.int p2), none], [.int (-1)], h)) rfl ?_
          obtain rfl := Option.some.inj hF
          exact en_ret (by decide +kernel : u_at kl_253 42 = some (.ireturn, [0])) rfl (hQ _ hW)
def F_254 (c12 : Cl) (a0 : Nat) (p1 : Int32) (p2 : Int32) (p3 : Int32) : Option (Int32 × Cl) :=
  if p1 = (-1) then
  ast c12 20 a0 221 220 0 >>= fun c12_2 =>
  some (0, c12_2)
  else
  F_170 ((p1 : Int32).toInt64) 0 8 >>= fun r3 =>
  if r3 = 0 then
  some ((-2), c12)
  else
  F_222 c12 a0 p2 >>= fun r5 =>
  if r5 = 0 then
  some ((-2), c12)
  else
  F_170 ((p3 : Int32).toInt64) 0 99 >>= fun r7 =>
  if r7 = 0 then
  some ((-2), c12)
  else
  ald (cA c12 20 a0) 221 220 >>= fun v9 =>
  if v9 = 12 then
  some ((-2), c12)
  else
  ald (cA c12 20 a0) 221 220 >>= fun v11 =>
  ast c12 20 a0 221 (184 + (3 * v11)) p1 >>= fun c12_12 =>
  ast c12_12 20 a0 221 ((184 + (3 * v11)) + 1) p2 >>= fun c12_13 =>
  ast c12_13 20 a0 221 ((184 + (3 * v11)) + 2) p3 >>= fun c12_14 =>
  ald (cA c12_14 20 a0) 221 220 >>= fun v15 =>
  ast c12_14 20 a0 221 220 (v15 + 1) >>= fun c12_16 =>
  ald (cA c12_16 20 a0) 221 220 >>= fun v17 =>
  some (v17, c12_16)
set_option maxRecDepth 100000 in
set_option maxHeartbeats 4000000 in
/-- HeadCountsModel.tell -/
theorem e_254 {D : Nat} {c0 c1 c2 c3 c4 c5 c6 c7 c8 c9 c10 c11 c12 c13 : Cl} {d : Ad} {h : UH} {a0 : Nat} {p1 : Int32} {p2 : Int32} {p3 : Int32} {r : (Int32 × Cl)} (hD : 2 ≤ D) (hW : HW (mkw c0 c1 c2 c3 c4 c5 c6 c7 c8 c9 c10 c11 c12 c13) d h) (ha0 : aK d a0 = (0, 12, 0)) (hF : F_254 c12 a0 p1 p2 p3 = some r) : ∃ q, EX D 254 [.ref a0, .int p1, .int p2, .int p3] h q ∧ q.1 = some (.int r.1) ∧ HW (mkw c0 c1 c2 c3 c4 c5 c6 c7 c8 c9 c10 c11 r.2 c13) d q.2 := by
  obtain ⟨D, rfl⟩ : ∃ E, D = E + 1 := ⟨D - 1, by omega⟩
  unfold F_254 at hF
  refine ex_in (kl := kl_254) (nL := 5) rfl (by decide +kernel) (Nat.le_of_ble_eq_true rfl) ?_
  obtain ⟨QQ, hQQ⟩ : ∃ QQ : UR → Prop, QQ = (fun q : UR => q.1 = some (.int r.1) ∧ HW (mkw c0 c1 c2 c3 c4 c5 c6 c7 c8 c9 c10 c11 r.2 c13) d q.2) := ⟨_, rfl⟩
  rw [← hQQ]
  have hQ : ∀ h' : UH, HW (mkw c0 c1 c2 c3 c4 c5 c6 c7 c8 c9 c10 c11 r.2 c13) d h' → QQ (some (.int r.1), h') := fun h' p => by rw [hQQ]; exact ⟨rfl, p⟩
  clear hQQ
  show Ends (EX D) (u_at kl_254) (0, [some (.ref a0), some (.int p1), some (.int p2), some (.int p3), none], [], h) QQ
  refine en_segs [(0, .iload_n 1, []), (1, .iconst (-1), [])] (by decide +kernel) (y := (2, [some (.ref a0), some (.int p1), some (.int p2), some (.int p3), none], [.int (-1), .int p1], h)) rfl ?_
  refine en_ic_ne (by decide +kernel : u_at kl_254 2 = some (.if_icmp .ne 14, [16])) (fun b1 => ?_) (fun b1 => ?_)
  · replace hF := i_pos b1 hF
    refine en_segs [(5, .aload_n 0, [])] (by decide +kernel) (y := (6, [some (.ref a0), some (.int p1), some (.int p2), some (.int p3), none], [.ref a0], h)) rfl ?_
    refine en_get (by decide +kernel : u_at kl_254 6 = some (.getfield 39, [12, 20])) hW ha0 (by decide) rfl ?_
    refine en_segs [(9, .sipush 220, []), (12, .iconst 0, [])] (by decide +kernel) (y := (13, [some (.ref a0), some (.int p1), some (.int p2), some (.int p3), none], [.int 0, .int 220, .ref (aP d 12 20 a0)], h)) rfl ?_
    obtain ⟨c12_2, hc12_2, hF⟩ := ob_some hF
    refine en_iast (by decide +kernel : u_at kl_254 13 = some (.iastore, [])) hW ha0 rfl (by decide) hc12_2 (fun h hW => ?_)
    have hW : HW (mkw c0 c1 c2 c3 c4 c5 c6 c7 c8 c9 c10 c11 c12_2 c13) d h := hW
    refine en_segs [(14, .iconst 0, [])] (by decide +kernel) (y := (15, [some (.ref a0), some (.int p1), some (.int p2), some (.int p3), none], [.int 0], h)) rfl ?_
    obtain rfl := Option.some.inj hF
    exact en_ret (by decide +kernel : u_at kl_254 15 = some (.ireturn, [0])) rfl (hQ _ hW)
  · replace hF := i_neg b1 hF
    refine en_segs [(16, .iload_n 1, []), (17, .i2l, []), (18, .lconst 0, []), (19, .ldc2_w 432, [8])] (by decide +kernel) (y := (22, [some (.ref a0), some (.int p1), some (.int p2), some (.int p3), none], [.long 8, .long 0, .long ((p1 : Int32).toInt64)], h)) rfl ?_
    obtain ⟨r3, hr3, hF⟩ := ob_some hF
    refine en_si (r := []) (by decide +kernel : u_at kl_254 22 = some (.invokestatic 161, [170, 3])) rfl rfl (Nat.le_of_ble_eq_true rfl) (e_170 (D := D) (by omega) hW hr3) (fun h' q => ?_)
    subst q
    refine en_if_eq (by decide +kernel : u_at kl_254 25 = some (.ifCond .eq 36, [61])) (fun b4 => ?_) (fun b4 => ?_)
    · replace hF := i_pos b4 hF
      refine en_segs [(61, .bipush (-2), [])] (by decide +kernel) (y := (63, [some (.ref a0), some (.int p1), some (.int p2), some (.int p3), none], [.int (-2)], h)) rfl ?_
      obtain rfl := Option.some.inj hF
      exact en_ret (by decide +kernel : u_at kl_254 63 = some (.ireturn, [0])) rfl (hQ _ hW)
    · replace hF := i_neg b4 hF
      refine en_segs [(28, .aload_n 0, []), (29, .iload_n 2, [])] (by decide +kernel) (y := (30, [some (.ref a0), some (.int p1), some (.int p2), some (.int p3), none], [.int p2, .ref a0], h)) rfl ?_
      obtain ⟨r5, hr5, hF⟩ := ob_some hF
      refine en_vi (r := []) (by decide +kernel : u_at kl_254 30 = some (.invokevirtual 386, [222, 1, 12])) hW ha0 rfl rfl (Nat.le_of_ble_eq_true rfl) (e_222 (D := D) (by omega) hW ha0 hr5) (fun h' q => ?_)
      subst q
      refine en_if_eq (by decide +kernel : u_at kl_254 33 = some (.ifCond .eq 28, [61])) (fun b6 => ?_) (fun b6 => ?_)
      · replace hF := i_pos b6 hF
        refine en_segs [(61, .bipush (-2), [])] (by decide +kernel) (y := (63, [some (.ref a0), some (.int p1), some (.int p2), some (.int p3), none], [.int (-2)], h)) rfl ?_
        obtain rfl := Option.some.inj hF
        exact en_ret (by decide +kernel : u_at kl_254 63 = some (.ireturn, [0])) rfl (hQ _ hW)
      · replace hF := i_neg b6 hF
        refine en_segs [(36, .iload_n 3, []), (37, .i2l, []), (38, .lconst 0, []), (39, .ldc2_w 412, [99])] (by decide +kernel) (y := (42, [some (.ref a0), some (.int p1), some (.int p2), some (.int p3), none], [.long 99, .long 0, .long ((p3 : Int32).toInt64)], h)) rfl ?_
        obtain ⟨r7, hr7, hF⟩ := ob_some hF
        refine en_si (r := []) (by decide +kernel : u_at kl_254 42 = some (.invokestatic 161, [170, 3])) rfl rfl (Nat.le_of_ble_eq_true rfl) (e_170 (D := D) (by omega) hW hr7) (fun h' q => ?_)
        subst q
        refine en_if_eq (by decide +kernel : u_at kl_254 45 = some (.ifCond .eq 16, [61])) (fun b8 => ?_) (fun b8 => ?_)
        · replace hF := i_pos b8 hF
          refine en_segs [(61, .bipush (-2), [])] (by decide +kernel) (y := (63, [some (.ref a0), some (.int p1), some (.int p2), some (.int p3), none], [.int (-2)], h)) rfl ?_
          obtain rfl := Option.some.inj hF
          exact en_ret (by decide +kernel : u_at kl_254 63 = some (.ireturn, [0])) rfl (hQ _ hW)
        · replace hF := i_neg b8 hF
          refine en_segs [(48, .aload_n 0, [])] (by decide +kernel) (y := (49, [some (.ref a0), some (.int p1), some (.int p2), some (.int p3), none], [.ref a0], h)) rfl ?_
          refine en_get (by decide +kernel : u_at kl_254 49 = some (.getfield 39, [12, 20])) hW ha0 (by decide) rfl ?_
          refine en_segs [(52, .sipush 220, [])] (by decide +kernel) (y := (55, [some (.ref a0), some (.int p1), some (.int p2), some (.int p3), none], [.int 220, .ref (aP d 12 20 a0)], h)) rfl ?_
          obtain ⟨v9, hv9, hF⟩ := ob_some hF
          refine en_iald (by decide +kernel : u_at kl_254 55 = some (.iaload, [])) hW ha0 rfl (by decide) hv9 ?_
          refine en_segs [(56, .bipush 12, [])] (by decide +kernel) (y := (58, [some (.ref a0), some (.int p1), some (.int p2), some (.int p3), none], [.int 12, .int v9], h)) rfl ?_
          refine en_ic_ne (by decide +kernel : u_at kl_254 58 = some (.if_icmp .ne 6, [64])) (fun b10 => ?_) (fun b10 => ?_)
          · replace hF := i_pos b10 hF
            refine en_segs [(61, .bipush (-2), [])] (by decide +kernel) (y := (63, [some (.ref a0), some (.int p1), some (.int p2), some (.int p3), none], [.int (-2)], h)) rfl ?_
            obtain rfl := Option.some.inj hF
            exact en_ret (by decide +kernel : u_at kl_254 63 = some (.ireturn, [0])) rfl (hQ _ hW)
          · replace hF := i_neg b10 hF
            refine en_segs [(64, .sipush 184, []), (67, .iconst 3, []), (68, .aload_n 0, [])] (by decide +kernel) (y := (69, [some (.ref a0), some (.int p1), some (.int p2), some (.int p3), none], [.ref a0, .int 3, .int 184], h)) rfl ?_
            refine en_get (by decide +kernel : u_at kl_254 69 = some (.getfield 39, [12, 20])) hW ha0 (by decide) rfl ?_
            refine en_segs [(72, .sipush 220, [])] (by decide +kernel) (y := (75, [some (.ref a0), some (.int p1), some (.int p2), some (.int p3), none], [.int 220, .ref (aP d 12 20 a0), .int 3, .int 184], h)) rfl ?_
            obtain ⟨v11, hv11, hF⟩ := ob_some hF
            refine en_iald (by decide +kernel : u_at kl_254 75 = some (.iaload, [])) hW ha0 rfl (by decide) hv11 ?_
            refine en_segs [(76, .imul, []), (77, .iadd, []), (78, .istore 4, []), (80, .aload_n 0, [])] (by decide +kernel) (y := (81, [some (.ref a0), some (.int p1), some (.int p2), some (.int p3), some (.int (184 + (3 * v11)))], [.ref a0], h)) rfl ?_
            refine en_get (by decide +kernel : u_at kl_254 81 = some (.getfield 39, [12, 20])) hW ha0 (by decide) rfl ?_
            refine en_segs [(84, .iload 4, []), (86, .iload_n 1, [])] (by decide +kernel) (y := (87, [some (.ref a0), some (.int p1), some (.int p2), some (.int p3), some (.int (184 + (3 * v11)))], [.int p1, .int (184 + (3 * v11)), .ref (aP d 12 20 a0)], h)) rfl ?_
            obtain ⟨c12_12, hc12_12, hF⟩ := ob_some hF
            refine en_iast (by decide +kernel : u_at kl_254 87 = some (.iastore, [])) hW ha0 rfl (by decide) hc12_12 (fun h hW => ?_)
            have hW : HW (mkw c0 c1 c2 c3 c4 c5 c6 c7 c8 c9 c10 c11 c12_12 c13) d h := hW
            refine en_segs [(88, .aload_n 0, [])] (by decide +kernel) (y := (89, [some (.ref a0), some (.int p1), some (.int p2), some (.int p3), some (.int (184 + (3 * v11)))], [.ref a0], h)) rfl ?_
            refine en_get (by decide +kernel : u_at kl_254 89 = some (.getfield 39, [12, 20])) hW ha0 (by decide) rfl ?_
            refine en_segs [(92, .iload 4, []), (94, .iconst 1, []), (95, .iadd, []), (96, .iload_n 2, [])] (by decide +kernel) (y := (97, [some (.ref a0), some (.int p1), some (.int p2), some (.int p3), some (.int (184 + (3 * v11)))], [.int p2, .int ((184 + (3 * v11)) + 1), .ref (aP d 12 20 a0)], h)) rfl ?_
            obtain ⟨c12_13, hc12_13, hF⟩ := ob_some hF
            refine en_iast (by decide +kernel : u_at kl_254 97 = some (.iastore, [])) hW ha0 rfl (by decide) hc12_13 (fun h hW => ?_)
            have hW : HW (mkw c0 c1 c2 c3 c4 c5 c6 c7 c8 c9 c10 c11 c12_13 c13) d h := hW
            refine en_segs [(98, .aload_n 0, [])] (by decide +kernel) (y := (99, [some (.ref a0), some (.int p1), some (.int p2), some (.int p3), some (.int (184 + (3 * v11)))], [.ref a0], h)) rfl ?_
            refine en_get (by decide +kernel : u_at kl_254 99 = some (.getfield 39, [12, 20])) hW ha0 (by decide) rfl ?_
            refine en_segs [(102, .iload 4, []), (104, .iconst 2, []), (105, .iadd, []), (106, .iload_n 3, [])] (by decide +kernel) (y := (107, [some (.ref a0), some (.int p1), some (.int p2), some (.int p3), some (.int (184 + (3 * v11)))], [.int p3, .int ((184 + (3 * v11)) + 2), .ref (aP d 12 20 a0)], h)) rfl ?_
            obtain ⟨c12_14, hc12_14, hF⟩ := ob_some hF
            refine en_iast (by decide +kernel : u_at kl_254 107 = some (.iastore, [])) hW ha0 rfl (by decide) hc12_14 (fun h hW => ?_)
            have hW : HW (mkw c0 c1 c2 c3 c4 c5 c6 c7 c8 c9 c10 c11 c12_14 c13) d h := hW
            refine en_segs [(108, .aload_n 0, [])] (by decide +kernel) (y := (109, [some (.ref a0), some (.int p1), some (.int p2), some (.int p3), some (.int (184 + (3 * v11)))], [.ref a0], h)) rfl ?_
            refine en_get (by decide +kernel : u_at kl_254 109 = some (.getfield 39, [12, 20])) hW ha0 (by decide) rfl ?_
            refine en_segs [(112, .sipush 220, []), (115, .dup2, [])] (by decide +kernel) (y := (116, [some (.ref a0), some (.int p1), some (.int p2), some (.int p3), some (.int (184 + (3 * v11)))], [.int 220, .ref (aP d 12 20 a0), .int 220, .ref (aP d 12 20 a0)], h)) rfl ?_
            obtain ⟨v15, hv15, hF⟩ := ob_some hF
            refine en_iald (by decide +kernel : u_at kl_254 116 = some (.iaload, [])) hW ha0 rfl (by decide) hv15 ?_
            refine en_segs [(117, .iconst 1, []), (118, .iadd, [])] (by decide +kernel) (y := (119, [some (.ref a0), some (.int p1), some (.int p2), some (.int p3), some (.int (184 + (3 * v11)))], [.int (v15 + 1), .int 220, .ref (aP d 12 20 a0)], h)) rfl ?_
            obtain ⟨c12_16, hc12_16, hF⟩ := ob_some hF
            refine en_iast (by decide +kernel : u_at kl_254 119 = some (.iastore, [])) hW ha0 rfl (by decide) hc12_16 (fun h hW => ?_)
            have hW : HW (mkw c0 c1 c2 c3 c4 c5 c6 c7 c8 c9 c10 c11 c12_16 c13) d h := hW
            refine en_segs [(120, .aload_n 0, [])] (by decide +kernel) (y := (121, [some (.ref a0), some (.int p1), some (.int p2), some (.int p3), some (.int (184 + (3 * v11)))], [.ref a0], h)) rfl ?_
            refine en_get (by decide +kernel : u_at kl_254 121 = some (.getfield 39, [12, 20])) hW ha0 (by decide) rfl ?_
            refine en_segs [(124, .sipush 220, [])] (by decide +kernel) (y := (127, [some (.ref a0), some (.int p1), some (.int p2), some (.int p3), some (.int (184 + (3 * v11)))], [.int 220, .ref (aP d 12 20 a0)], h)) rfl ?_
            obtain ⟨v17, hv17, hF⟩ := ob_some hF
            refine en_iald (by decide +kernel : u_at kl_254 127 = some (.iaload, [])) hW ha0 rfl (by decide) hv17 ?_
            obtain rfl := Option.some.inj hF
            exact en_ret (by decide +kernel : u_at kl_254 128 = some (.ireturn, [0])) rfl (hQ _ hW)
def G_255 (a0 : Nat) (lab : Nat) (xs : List Int32) (ys : List Int64) (zs : List Nat) (c12 : Cl) : Option Cl := match lab, xs, ys, zs with
  | 0, [x1, x2], [], [] =>
    if 6 ≤ x2 then
    some c12
    else
    ald (cA c12 25 a0) 6 x2 >>= fun v2 =>
    idv x1 v2 >>= fun v3 =>
    irm v3 6 >>= fun v4 =>
    ast c12 24 a0 6 x2 v4 >>= fun c12_5 =>
    G_255 a0 0 [x1, x2 + 1] [] [] c12_5
  | _, _, _, _ => none
partial_fixpoint
set_option maxRecDepth 100000 in
set_option maxHeartbeats 4000000 in
theorem g_255 {D : Nat} (hD : 1 ≤ D + 1) {c0 c1 c2 c3 c4 c5 c6 c7 c8 c9 c10 c11 c13 : Cl} {d : Ad} {a0 : Nat} (ha0 : aK d a0 = (0, 12, 0)) : ∀ (lab : Nat) (xs : List Int32) (ys : List Int64) (zs : List Nat) (c12 : Cl) (r : Cl), G_255 a0 lab xs ys zs c12 = some r →
    (∀ (x1 : Int32) (x2 : Int32), lab = 0 → xs = [x1, x2] → ys = [] → zs = [] → ∀ h : UH, HW (mkw c0 c1 c2 c3 c4 c5 c6 c7 c8 c9 c10 c11 c12 c13) d h → ∀ QQ : UR → Prop, (∀ h' : UH, HW (mkw c0 c1 c2 c3 c4 c5 c6 c7 c8 c9 c10 c11 r c13) d h' → QQ (none, h')) → Ends (EX D) (u_at kl_255) (2, [some (.ref a0), some (.int x1), some (.int x2)], [], h) QQ) := by
  refine G_255.partial_correctness _ (motive := fun lab xs ys zs c12 r =>
    (∀ (x1 : Int32) (x2 : Int32), lab = 0 → xs = [x1, x2] → ys = [] → zs = [] → ∀ h : UH, HW (mkw c0 c1 c2 c3 c4 c5 c6 c7 c8 c9 c10 c11 c12 c13) d h → ∀ QQ : UR → Prop, (∀ h' : UH, HW (mkw c0 c1 c2 c3 c4 c5 c6 c7 c8 c9 c10 c11 r c13) d h' → QQ (none, h')) → Ends (EX D) (u_at kl_255) (2, [some (.ref a0), some (.int x1), some (.int x2)], [], h) QQ)) ?_
  intro G ih lab xs ys zs c12 r hF
  · intro x1 x2 e1 e2 e3 e4 h hW QQ hQ
    subst e1 e2 e3 e4
    refine en_segs [(2, .iload_n 2, []), (3, .bipush 6, [])] (by decide +kernel) (y := (5, [some (.ref a0), some (.int x1), some (.int x2)], [.int 6, .int x2], h)) rfl ?_
    refine en_ic_ge (by decide +kernel : u_at kl_255 5 = some (.if_icmp .ge 26, [31])) (fun b1 => ?_) (fun b1 => ?_)
    · replace hF := i_pos b1 hF
      obtain rfl := Option.some.inj hF
      exact en_ret (by decide +kernel : u_at kl_255 31 = some (.return_, [])) rfl (hQ _ hW)
    · replace hF := i_neg b1 hF
      refine en_segs [(8, .aload_n 0, [])] (by decide +kernel) (y := (9, [some (.ref a0), some (.int x1), some (.int x2)], [.ref a0], h)) rfl ?_
      refine en_get (by decide +kernel : u_at kl_255 9 = some (.getfield 45, [12, 24])) hW ha0 (by decide) rfl ?_
      refine en_segs [(12, .iload_n 2, []), (13, .iload_n 1, []), (14, .aload_n 0, [])] (by decide +kernel) (y := (15, [some (.ref a0), some (.int x1), some (.int x2)], [.ref a0, .int x1, .int x2, .ref (aP d 12 24 a0)], h)) rfl ?_
      refine en_get (by decide +kernel : u_at kl_255 15 = some (.getfield 48, [12, 25])) hW ha0 (by decide) rfl ?_
      refine en_segs [(18, .iload_n 2, [])] (by decide +kernel) (y := (19, [some (.ref a0), some (.int x1), some (.int x2)], [.int x2, .ref (aP d 12 25 a0), .int x1, .int x2, .ref (aP d 12 24 a0)], h)) rfl ?_
      obtain ⟨v2, hv2, hF⟩ := ob_some hF
      refine en_iald (by decide +kernel : u_at kl_255 19 = some (.iaload, [])) hW ha0 rfl (by decide) hv2 ?_
      obtain ⟨v3, hv3, hF⟩ := ob_some hF
      refine en_idiv (by decide +kernel : u_at kl_255 20 = some (.idiv, [])) hv3 ?_
      refine en_segs [(21, .bipush 6, [])] (by decide +kernel) (y := (23, [some (.ref a0), some (.int x1), some (.int x2)], [.int 6, .int v3, .int x2, .ref (aP d 12 24 a0)], h)) rfl ?_
      obtain ⟨v4, hv4, hF⟩ := ob_some hF
      refine en_irem (by decide +kernel : u_at kl_255 23 = some (.irem, [])) hv4 ?_
      obtain ⟨c12_5, hc12_5, hF⟩ := ob_some hF
      refine en_iast (by decide +kernel : u_at kl_255 24 = some (.iastore, [])) hW ha0 rfl (by decide) hc12_5 (fun h hW => ?_)
      have hW : HW (mkw c0 c1 c2 c3 c4 c5 c6 c7 c8 c9 c10 c11 c12_5 c13) d h := hW
      refine en_segs [(25, .iinc 2 1, []), (28, .goto (-26), [2])] (by decide +kernel) (y := (2, [some (.ref a0), some (.int x1), some (.int (x2 + 1))], [], h)) rfl ?_
      exact (ih _ _ _ _ _ _ hF) _ _ rfl rfl rfl rfl  _ hW _ hQ
def F_255 (c12 : Cl) (a0 : Nat) (p1 : Int32) : Option Cl :=
  G_255 a0 0 [p1, 0] [] [] c12
set_option maxRecDepth 100000 in
set_option maxHeartbeats 4000000 in
/-- HeadCountsModel.looks -/
theorem e_255 {D : Nat} {c0 c1 c2 c3 c4 c5 c6 c7 c8 c9 c10 c11 c12 c13 : Cl} {d : Ad} {h : UH} {a0 : Nat} {p1 : Int32} {r : Cl} (hD : 1 ≤ D) (hW : HW (mkw c0 c1 c2 c3 c4 c5 c6 c7 c8 c9 c10 c11 c12 c13) d h) (ha0 : aK d a0 = (0, 12, 0)) (hF : F_255 c12 a0 p1 = some r) : ∃ q, EX D 255 [.ref a0, .int p1] h q ∧ q.1 = none ∧ HW (mkw c0 c1 c2 c3 c4 c5 c6 c7 c8 c9 c10 c11 r c13) d q.2 := by
  obtain ⟨D, rfl⟩ : ∃ E, D = E + 1 := ⟨D - 1, by omega⟩
  unfold F_255 at hF
  refine ex_in (kl := kl_255) (nL := 3) rfl (by decide +kernel) (Nat.le_of_ble_eq_true rfl) ?_
  obtain ⟨QQ, hQQ⟩ : ∃ QQ : UR → Prop, QQ = (fun q : UR => q.1 = none ∧ HW (mkw c0 c1 c2 c3 c4 c5 c6 c7 c8 c9 c10 c11 r c13) d q.2) := ⟨_, rfl⟩
  rw [← hQQ]
  have hQ : ∀ h' : UH, HW (mkw c0 c1 c2 c3 c4 c5 c6 c7 c8 c9 c10 c11 r c13) d h' → QQ (none, h') := fun h' p => by rw [hQQ]; exact ⟨rfl, p⟩
  clear hQQ
  show Ends (EX D) (u_at kl_255) (0, [some (.ref a0), some (.int p1), none], [], h) QQ
  refine en_segs [(0, .iconst 0, []), (1, .istore_n 2, [])] (by decide +kernel) (y := (2, [some (.ref a0), some (.int p1), some (.int 0)], [], h)) rfl ?_
  exact (g_255 (D := D) hD ha0 _ _ _ _ _ _ hF) _ _ rfl rfl rfl rfl  _ hW _ hQ
def G_256 (c12 : Cl) (a0 : Nat) (lab : Nat) (xs : List Int32) (ys : List Int64) (zs : List Nat) : Option Int32 := match lab, xs, ys, zs with
  | 0, [x1, x2], [], [] =>
    ald (cA c12 20 a0) 221 2 >>= fun v1 =>
    if v1 ≤ x2 then
    some x1
    else
    F_224 c12 a0 x2 >>= fun r3 =>
    ((if r3 = 0 then
    some 0
    else
    ald (cA c12 25 a0) 6 x2 >>= fun v7 =>
    F_223 c12 a0 x2 0 >>= fun r8 =>
    some (v7 * r8)) : Option (Int32)) >>= fun (t4 : Int32) =>
    G_256 c12 a0 0 [x1 + t4, x2 + 1] [] []
  | _, _, _, _ => none
partial_fixpoint
set_option maxRecDepth 100000 in
set_option maxHeartbeats 4000000 in
theorem g_256 {D : Nat} (hD : 3 ≤ D + 1) {c0 c1 c2 c3 c4 c5 c6 c7 c8 c9 c10 c11 c12 c13 : Cl} {d : Ad} {a0 : Nat} (ha0 : aK d a0 = (0, 12, 0)) : ∀ (lab : Nat) (xs : List Int32) (ys : List Int64) (zs : List Nat) (r : Int32), G_256 c12 a0 lab xs ys zs = some r →
    (∀ (x1 : Int32) (x2 : Int32), lab = 0 → xs = [x1, x2] → ys = [] → zs = [] → ∀ h : UH, HW (mkw c0 c1 c2 c3 c4 c5 c6 c7 c8 c9 c10 c11 c12 c13) d h → ∀ QQ : UR → Prop, QQ (some (.int r), h) → Ends (EX D) (u_at kl_256) (4, [some (.ref a0), some (.int x1), some (.int x2)], [], h) QQ) := by
  refine G_256.partial_correctness _ _ (motive := fun lab xs ys zs r =>
    (∀ (x1 : Int32) (x2 : Int32), lab = 0 → xs = [x1, x2] → ys = [] → zs = [] → ∀ h : UH, HW (mkw c0 c1 c2 c3 c4 c5 c6 c7 c8 c9 c10 c11 c12 c13) d h → ∀ QQ : UR → Prop, QQ (some (.int r), h) → Ends (EX D) (u_at kl_256) (4, [some (.ref a0), some (.int x1), some (.int x2)], [], h) QQ)) ?_
  intro G ih lab xs ys zs r hF
  · intro x1 x2 e1 e2 e3 e4 h hW QQ hQ
    subst e1 e2 e3 e4
    refine en_segs [(4, .iload_n 2, []), (5, .aload_n 0, [])] (by decide +kernel) (y := (6, [some (.ref a0), some (.int x1), some (.int x2)], [.ref a0, .int x2], h)) rfl ?_
    refine en_get (by decide +kernel : u_at kl_256 6 = some (.getfield 39, [12, 20])) hW ha0 (by decide) rfl ?_
    refine en_segs [(9, .iconst 2, [])] (by decide +kernel) (y := (10, [some (.ref a0), some (.int x1), some (.int x2)], [.int 2, .ref (aP d 12 20 a0), .int x2], h)) rfl ?_
    obtain ⟨v1, hv1, hF⟩ := ob_some hF
    refine en_iald (by decide +kernel : u_at kl_256 10 = some (.iaload, [])) hW ha0 rfl (by decide) hv1 ?_
    refine en_ic_ge (by decide +kernel : u_at kl_256 11 = some (.if_icmp .ge 37, [48])) (fun b2 => ?_) (fun b2 => ?_)
    · replace hF := i_pos b2 hF
      refine en_segs [(48, .iload_n 1, [])] (by decide +kernel) (y := (49, [some (.ref a0), some (.int x1), some (.int x2)], [.int x1], h)) rfl ?_
      obtain rfl := Option.some.inj hF
      exact en_ret (by decide +kernel : u_at kl_256 49 = some (.ireturn, [0])) rfl (hQ)
    · replace hF := i_neg b2 hF
      refine en_segs [(14, .iload_n 1, []), (15, .aload_n 0, []), (16, .iload_n 2, [])] (by decide +kernel) (y := (17, [some (.ref a0), some (.int x1), some (.int x2)], [.int x2, .ref a0, .int x1], h)) rfl ?_
      obtain ⟨r3, hr3, hF⟩ := ob_some hF
      refine en_vi (r := [.int x1]) (by decide +kernel : u_at kl_256 17 = some (.invokevirtual 346, [224, 1, 12])) hW ha0 rfl rfl (Nat.le_of_ble_eq_true rfl) (e_224 (D := D) (by omega) hW ha0 hr3) (fun h' q => ?_)
      subst q
      obtain ⟨t4, hX, hK⟩ := ob_some hF
      have j5 : Ends (EX D) (u_at kl_256) (40, [some (.ref a0), some (.int x1), some (.int x2)], [.int t4, .int x1], h) QQ := by
        have hF := hK
        refine en_segs [(40, .iadd, []), (41, .istore_n 1, []), (42, .iinc 2 1, []), (45, .goto (-41), [4])] (by decide +kernel) (y := (4, [some (.ref a0), some (.int (x1 + t4)), some (.int (x2 + 1))], [], h)) rfl ?_
        exact (ih _ _ _ _ _ hF) _ _ rfl rfl rfl rfl  _ hW _ hQ
      have hF := hX
      refine en_if_eq (by decide +kernel : u_at kl_256 20 = some (.ifCond .eq 19, [39])) (fun b6 => ?_) (fun b6 => ?_)
      · replace hF := i_pos b6 hF
        refine en_segs [(39, .iconst 0, [])] (by decide +kernel) (y := (40, [some (.ref a0), some (.int x1), some (.int x2)], [.int 0, .int x1], h)) rfl ?_
        obtain rfl := Option.some.inj hF
        exact j5
      · replace hF := i_neg b6 hF
        refine en_segs [(23, .aload_n 0, [])] (by decide +kernel) (y := (24, [some (.ref a0), some (.int x1), some (.int x2)], [.ref a0, .int x1], h)) rfl ?_
        refine en_get (by decide +kernel : u_at kl_256 24 = some (.getfield 48, [12, 25])) hW ha0 (by decide) rfl ?_
        refine en_segs [(27, .iload_n 2, [])] (by decide +kernel) (y := (28, [some (.ref a0), some (.int x1), some (.int x2)], [.int x2, .ref (aP d 12 25 a0), .int x1], h)) rfl ?_
        obtain ⟨v7, hv7, hF⟩ := ob_some hF
        refine en_iald (by decide +kernel : u_at kl_256 28 = some (.iaload, [])) hW ha0 rfl (by decide) hv7 ?_
        refine en_segs [(29, .aload_n 0, []), (30, .iload_n 2, []), (31, .iconst 0, [])] (by decide +kernel) (y := (32, [some (.ref a0), some (.int x1), some (.int x2)], [.int 0, .int x2, .ref a0, .int v7, .int x1], h)) rfl ?_
        obtain ⟨r8, hr8, hF⟩ := ob_some hF
        refine en_vi (r := [.int v7, .int x1]) (by decide +kernel : u_at kl_256 32 = some (.invokevirtual 343, [223, 2, 12])) hW ha0 rfl rfl (Nat.le_of_ble_eq_true rfl) (e_223 (D := D) (by omega) hW ha0 hr8) (fun h' q => ?_)
        subst q
        refine en_segs [(35, .imul, []), (36, .goto 4, [40])] (by decide +kernel) (y := (40, [some (.ref a0), some (.int x1), some (.int x2)], [.int (v7 * r8), .int x1], h)) rfl ?_
        obtain rfl := Option.some.inj hF
        exact j5
def F_256 (c12 : Cl) (a0 : Nat) : Option Int32 :=
  G_256 c12 a0 0 [0, 0] [] []
set_option maxRecDepth 100000 in
set_option maxHeartbeats 4000000 in
/-- HeadCountsModel.situationNow -/
theorem e_256 {D : Nat} {c0 c1 c2 c3 c4 c5 c6 c7 c8 c9 c10 c11 c12 c13 : Cl} {d : Ad} {h : UH} {a0 : Nat} {r : Int32} (hD : 3 ≤ D) (hW : HW (mkw c0 c1 c2 c3 c4 c5 c6 c7 c8 c9 c10 c11 c12 c13) d h) (ha0 : aK d a0 = (0, 12, 0)) (hF : F_256 c12 a0 = some r) : ∃ q, EX D 256 [.ref a0] h q ∧ q.1 = some (.int r) ∧ h = q.2 := by
  obtain ⟨D, rfl⟩ : ∃ E, D = E + 1 := ⟨D - 1, by omega⟩
  unfold F_256 at hF
  refine ex_in (kl := kl_256) (nL := 3) rfl (by decide +kernel) (Nat.le_of_ble_eq_true rfl) ?_
  obtain ⟨QQ, hQQ⟩ : ∃ QQ : UR → Prop, QQ = (fun q : UR => q.1 = some (.int r) ∧ h = q.2) := ⟨_, rfl⟩
  rw [← hQQ]
  have hQ : QQ (some (.int r), h) := by rw [hQQ]; exact ⟨rfl, rfl⟩
  clear hQQ
  show Ends (EX D) (u_at kl_256) (0, [some (.ref a0), none, none], [], h) QQ
  refine en_segs [(0, .iconst 0, []), (1, .istore_n 1, []), (2, .iconst 0, []), (3, .istore_n 2, [])] (by decide +kernel) (y := (4, [some (.ref a0), some (.int 0), some (.int 0)], [], h)) rfl ?_
  exact (g_256 (D := D) hD ha0 _ _ _ _ _ hF) _ _ rfl rfl rfl rfl  _ hW _ hQ
def G_257 (c12 : Cl) (a0 : Nat) (lab : Nat) (xs : List Int32) (ys : List Int64) (zs : List Nat) : Option (Int32 × Cl) := match lab, xs, ys, zs with
  | 0, [x2], [], [] =>
    if 6 ≤ x2 then
    some (1, c12)
    else
    F_221 c12 a0 x2 >>= fun r3 =>
    ((if r3 = 0 then
    some 0
    else
    F_224 c12 a0 x2 >>= fun r13 =>
    if r13 = 0 then
    some 0
    else
    some 1) : Option (Int32)) >>= fun (t4 : Int32) =>
    if t4 = 0 then
    ald (cA c12 24 a0) 6 x2 >>= fun v7 =>
    if v7 ≤ 0 then
    G_257 c12 a0 0 [x2 + 1] [] []
    else
    some (0, c12)
    else
    ald (cA c12 24 a0) 6 x2 >>= fun v9 =>
    ald (cA c12 20 a0) 221 0 >>= fun v10 =>
    if v9 < v10 then
    G_257 c12 a0 0 [x2 + 1] [] []
    else
    some (0, c12)
  | _, _, _, _ => none
partial_fixpoint
set_option maxRecDepth 100000 in
set_option maxHeartbeats 4000000 in
theorem g_257 {D : Nat} (hD : 3 ≤ D + 1) {c0 c1 c2 c3 c4 c5 c6 c7 c8 c9 c10 c11 c12 c13 : Cl} {d : Ad} {a0 : Nat} (ha0 : aK d a0 = (0, 12, 0)) : ∀ (lab : Nat) (xs : List Int32) (ys : List Int64) (zs : List Nat) (r : (Int32 × Cl)), G_257 c12 a0 lab xs ys zs = some r →
    (∀ (x2 : Int32), lab = 0 → xs = [x2] → ys = [] → zs = [] → ∀ h : UH, HW (mkw c0 c1 c2 c3 c4 c5 c6 c7 c8 c9 c10 c11 c12 c13) d h → ∀ QQ : UR → Prop, (∀ h' : UH, HW (mkw c0 c1 c2 c3 c4 c5 c6 c7 c8 c9 c10 c11 r.2 c13) d h' → QQ (some (.int r.1), h')) → Ends (EX D) (u_at kl_257) (7, [some (.ref a0), none, some (.int x2), none], [], h) QQ) := by
  refine G_257.partial_correctness _ _ (motive := fun lab xs ys zs r =>
    (∀ (x2 : Int32), lab = 0 → xs = [x2] → ys = [] → zs = [] → ∀ h : UH, HW (mkw c0 c1 c2 c3 c4 c5 c6 c7 c8 c9 c10 c11 c12 c13) d h → ∀ QQ : UR → Prop, (∀ h' : UH, HW (mkw c0 c1 c2 c3 c4 c5 c6 c7 c8 c9 c10 c11 r.2 c13) d h' → QQ (some (.int r.1), h')) → Ends (EX D) (u_at kl_257) (7, [some (.ref a0), none, some (.int x2), none], [], h) QQ)) ?_
  intro G ih lab xs ys zs r hF
  · intro x2 e1 e2 e3 e4 h hW QQ hQ
    subst e1 e2 e3 e4
    refine en_segs [(7, .iload_n 2, []), (8, .bipush 6, [])] (by decide +kernel) (y := (10, [some (.ref a0), none, some (.int x2), none], [.int 6, .int x2], h)) rfl ?_
    refine en_ic_ge (by decide +kernel : u_at kl_257 10 = some (.if_icmp .ge 64, [74])) (fun b2 => ?_) (fun b2 => ?_)
    · replace hF := i_pos b2 hF
      refine en_segs [(74, .iconst 1, [])] (by decide +kernel) (y := (75, [some (.ref a0), none, some (.int x2), none], [.int 1], h)) rfl ?_
      obtain rfl := Option.some.inj hF
      exact en_ret (by decide +kernel : u_at kl_257 75 = some (.ireturn, [1])) rfl (hQ _ hW)
    · replace hF := i_neg b2 hF
      refine en_segs [(13, .aload_n 0, []), (14, .iload_n 2, [])] (by decide +kernel) (y := (15, [some (.ref a0), none, some (.int x2), none], [.int x2, .ref a0], h)) rfl ?_
      obtain ⟨r3, hr3, hF⟩ := ob_some hF
      refine en_vi (r := []) (by decide +kernel : u_at kl_257 15 = some (.invokevirtual 367, [221, 1, 12])) hW ha0 rfl rfl (Nat.le_of_ble_eq_true rfl) (e_221 (D := D) (by omega) hW ha0 hr3) (fun h' q => ?_)
      subst q
      obtain ⟨t4, hX, hK⟩ := ob_some hF
      have j5 : ∀ h : UH, HW (mkw c0 c1 c2 c3 c4 c5 c6 c7 c8 c9 c10 c11 c12 c13) d h → Ends (EX D) (u_at kl_257) (34, [some (.ref a0), none, some (.int x2), none], [.int t4], h) QQ := by
        intro h hW
        have hF := hK
        refine en_segs [(34, .istore_n 3, []), (35, .iload_n 3, [])] (by decide +kernel) (y := (36, [some (.ref a0), none, some (.int x2), some (.int t4)], [.int t4], h)) rfl ?_
        refine en_if_eq (by decide +kernel : u_at kl_257 36 = some (.ifCond .eq 21, [57])) (fun b6 => ?_) (fun b6 => ?_)
        · replace hF := i_pos b6 hF
          refine en_segs [(57, .aload_n 0, [])] (by decide +kernel) (y := (58, [some (.ref a0), none, some (.int x2), some (.int t4)], [.ref a0], h)) rfl ?_
          refine en_get (by decide +kernel : u_at kl_257 58 = some (.getfield 45, [12, 24])) hW ha0 (by decide) rfl ?_
          refine en_segs [(61, .iload_n 2, [])] (by decide +kernel) (y := (62, [some (.ref a0), none, some (.int x2), some (.int t4)], [.int x2, .ref (aP d 12 24 a0)], h)) rfl ?_
          obtain ⟨v7, hv7, hF⟩ := ob_some hF
          refine en_iald (by decide +kernel : u_at kl_257 62 = some (.iaload, [])) hW ha0 rfl (by decide) hv7 ?_
          refine en_if_le (by decide +kernel : u_at kl_257 63 = some (.ifCond .le 5, [68])) (fun b8 => ?_) (fun b8 => ?_)
          · replace hF := i_pos b8 hF
            refine en_segs [(68, .iinc 2 1, []), (71, .goto (-64), [7])] (by decide +kernel) (y := (7, [some (.ref a0), none, some (.int (x2 + 1)), some (.int t4)], [], h)) rfl ?_
            refine en_fg (fg_k (fg_k (fg_k (fg_d fg_0)))) ?_
            exact (ih _ _ _ _ _ hF) _ rfl rfl rfl rfl  _ hW _ hQ
          · replace hF := i_neg b8 hF
            refine en_segs [(66, .iconst 0, [])] (by decide +kernel) (y := (67, [some (.ref a0), none, some (.int x2), some (.int t4)], [.int 0], h)) rfl ?_
            obtain rfl := Option.some.inj hF
            exact en_ret (by decide +kernel : u_at kl_257 67 = some (.ireturn, [1])) rfl (hQ _ hW)
        · replace hF := i_neg b6 hF
          refine en_segs [(39, .aload_n 0, [])] (by decide +kernel) (y := (40, [some (.ref a0), none, some (.int x2), some (.int t4)], [.ref a0], h)) rfl ?_
          refine en_get (by decide +kernel : u_at kl_257 40 = some (.getfield 45, [12, 24])) hW ha0 (by decide) rfl ?_
          refine en_segs [(43, .iload_n 2, [])] (by decide +kernel) (y := (44, [some (.ref a0), none, some (.int x2), some (.int t4)], [.int x2, .ref (aP d 12 24 a0)], h)) rfl ?_
          obtain ⟨v9, hv9, hF⟩ := ob_some hF
          refine en_iald (by decide +kernel : u_at kl_257 44 = some (.iaload, [])) hW ha0 rfl (by decide) hv9 ?_
          refine en_segs [(45, .aload_n 0, [])] (by decide +kernel) (y := (46, [some (.ref a0), none, some (.int x2), some (.int t4)], [.ref a0, .int v9], h)) rfl ?_
          refine en_get (by decide +kernel : u_at kl_257 46 = some (.getfield 39, [12, 20])) hW ha0 (by decide) rfl ?_
          refine en_segs [(49, .iconst 0, [])] (by decide +kernel) (y := (50, [some (.ref a0), none, some (.int x2), some (.int t4)], [.int 0, .ref (aP d 12 20 a0), .int v9], h)) rfl ?_
          obtain ⟨v10, hv10, hF⟩ := ob_some hF
          refine en_iald (by decide +kernel : u_at kl_257 50 = some (.iaload, [])) hW ha0 rfl (by decide) hv10 ?_
          refine en_ic_lt (by decide +kernel : u_at kl_257 51 = some (.if_icmp .lt 17, [68])) (fun b11 => ?_) (fun b11 => ?_)
          · replace hF := i_pos b11 hF
            refine en_segs [(68, .iinc 2 1, []), (71, .goto (-64), [7])] (by decide +kernel) (y := (7, [some (.ref a0), none, some (.int (x2 + 1)), some (.int t4)], [], h)) rfl ?_
            refine en_fg (fg_k (fg_k (fg_k (fg_d fg_0)))) ?_
            exact (ih _ _ _ _ _ hF) _ rfl rfl rfl rfl  _ hW _ hQ
          · replace hF := i_neg b11 hF
            refine en_segs [(54, .goto 12, [66]), (66, .iconst 0, [])] (by decide +kernel) (y := (67, [some (.ref a0), none, some (.int x2), some (.int t4)], [.int 0], h)) rfl ?_
            obtain rfl := Option.some.inj hF
            exact en_ret (by decide +kernel : u_at kl_257 67 = some (.ireturn, [1])) rfl (hQ _ hW)
      have hF := hX
      refine en_if_eq (by decide +kernel : u_at kl_257 18 = some (.ifCond .eq 15, [33])) (fun b12 => ?_) (fun b12 => ?_)
      · replace hF := i_pos b12 hF
        refine en_segs [(33, .iconst 0, [])] (by decide +kernel) (y := (34, [some (.ref a0), none, some (.int x2), none], [.int 0], h)) rfl ?_
        obtain rfl := Option.some.inj hF
        exact j5 _ hW
      · replace hF := i_neg b12 hF
        refine en_segs [(21, .aload_n 0, []), (22, .iload_n 2, [])] (by decide +kernel) (y := (23, [some (.ref a0), none, some (.int x2), none], [.int x2, .ref a0], h)) rfl ?_
        obtain ⟨r13, hr13, hF⟩ := ob_some hF
        refine en_vi (r := []) (by decide +kernel : u_at kl_257 23 = some (.invokevirtual 346, [224, 1, 12])) hW ha0 rfl rfl (Nat.le_of_ble_eq_true rfl) (e_224 (D := D) (by omega) hW ha0 hr13) (fun h' q => ?_)
        subst q
        refine en_if_eq (by decide +kernel : u_at kl_257 26 = some (.ifCond .eq 7, [33])) (fun b14 => ?_) (fun b14 => ?_)
        · replace hF := i_pos b14 hF
          refine en_segs [(33, .iconst 0, [])] (by decide +kernel) (y := (34, [some (.ref a0), none, some (.int x2), none], [.int 0], h)) rfl ?_
          obtain rfl := Option.some.inj hF
          exact j5 _ hW
        · replace hF := i_neg b14 hF
          refine en_segs [(29, .iconst 1, []), (30, .goto 4, [34])] (by decide +kernel) (y := (34, [some (.ref a0), none, some (.int x2), none], [.int 1], h)) rfl ?_
          obtain rfl := Option.some.inj hF
          exact j5 _ hW
def F_257 (c12 : Cl) (a0 : Nat) (p1 : Int32) : Option (Int32 × Cl) :=
  F_255 c12 a0 p1 >>= fun r1 =>
  G_257 r1 a0 0 [0] [] []
set_option maxRecDepth 100000 in
set_option maxHeartbeats 4000000 in
/-- HeadCountsModel.isSituation -/
theorem e_257 {D : Nat} {c0 c1 c2 c3 c4 c5 c6 c7 c8 c9 c10 c11 c12 c13 : Cl} {d : Ad} {h : UH} {a0 : Nat} {p1 : Int32} {r : (Int32 × Cl)} (hD : 3 ≤ D) (hW : HW (mkw c0 c1 c2 c3 c4 c5 c6 c7 c8 c9 c10 c11 c12 c13) d h) (ha0 : aK d a0 = (0, 12, 0)) (hF : F_257 c12 a0 p1 = some r) : ∃ q, EX D 257 [.ref a0, .int p1] h q ∧ q.1 = some (.int r.1) ∧ HW (mkw c0 c1 c2 c3 c4 c5 c6 c7 c8 c9 c10 c11 r.2 c13) d q.2 := by
  obtain ⟨D, rfl⟩ : ∃ E, D = E + 1 := ⟨D - 1, by omega⟩
  unfold F_257 at hF
  refine ex_in (kl := kl_257) (nL := 4) rfl (by decide +kernel) (Nat.le_of_ble_eq_true rfl) ?_
  obtain ⟨QQ, hQQ⟩ : ∃ QQ : UR → Prop, QQ = (fun q : UR => q.1 = some (.int r.1) ∧ HW (mkw c0 c1 c2 c3 c4 c5 c6 c7 c8 c9 c10 c11 r.2 c13) d q.2) := ⟨_, rfl⟩
  rw [← hQQ]
  have hQ : ∀ h' : UH, HW (mkw c0 c1 c2 c3 c4 c5 c6 c7 c8 c9 c10 c11 r.2 c13) d h' → QQ (some (.int r.1), h') := fun h' p => by rw [hQQ]; exact ⟨rfl, p⟩
  clear hQQ
  show Ends (EX D) (u_at kl_257) (0, [some (.ref a0), some (.int p1), none, none], [], h) QQ
  refine en_segs [(0, .aload_n 0, []), (1, .iload_n 1, [])] (by decide +kernel) (y := (2, [some (.ref a0), some (.int p1), none, none], [.int p1, .ref a0], h)) rfl ?_
  obtain ⟨r1, hr1, hF⟩ := ob_some hF
  refine en_vv (r := []) (by decide +kernel : u_at kl_257 2 = some (.invokevirtual 434, [255, 1, 12])) hW ha0 rfl rfl (Nat.le_of_ble_eq_true rfl) (e_255 (D := D) (by omega) hW ha0 hr1) (fun h hW => ?_)
  have hW : HW (mkw c0 c1 c2 c3 c4 c5 c6 c7 c8 c9 c10 c11 r1 c13) d h := hW
  refine en_segs [(5, .iconst 0, []), (6, .istore_n 2, [])] (by decide +kernel) (y := (7, [some (.ref a0), some (.int p1), some (.int 0), none], [], h)) rfl ?_
  refine en_fg (fg_k (fg_d (fg_k (fg_k fg_0)))) ?_
  exact (g_257 (D := D) hD ha0 _ _ _ _ _ hF) _ rfl rfl rfl rfl  _ hW _ hQ
def G_258 (c12 : Cl) (a0 : Nat) (lab : Nat) (xs : List Int32) (ys : List Int64) (zs : List Nat) : Option Int32 := match lab, xs, ys, zs with
  | 0, [x1, x2, x3], [], [] =>
    ald (cA c12 20 a0) 221 2 >>= fun v1 =>
    if v1 ≤ x3 then
    some x2
    else
    F_224 c12 a0 x3 >>= fun r3 =>
    ((if r3 = 0 then
    some 0
    else
    ald (cA c12 24 a0) 6 x3 >>= fun v7 =>
    if v7 = x1 then
    F_223 c12 a0 x3 1 >>= fun r9 =>
    some r9
    else
    some 0) : Option (Int32)) >>= fun (t4 : Int32) =>
    G_258 c12 a0 0 [x1, x2 + t4, x3 + 1] [] []
  | _, _, _, _ => none
partial_fixpoint
set_option maxRecDepth 100000 in
set_option maxHeartbeats 4000000 in
theorem g_258 {D : Nat} (hD : 3 ≤ D + 1) {c0 c1 c2 c3 c4 c5 c6 c7 c8 c9 c10 c11 c12 c13 : Cl} {d : Ad} {a0 : Nat} (ha0 : aK d a0 = (0, 12, 0)) : ∀ (lab : Nat) (xs : List Int32) (ys : List Int64) (zs : List Nat) (r : Int32), G_258 c12 a0 lab xs ys zs = some r →
    (∀ (x1 : Int32) (x2 : Int32) (x3 : Int32), lab = 0 → xs = [x1, x2, x3] → ys = [] → zs = [] → ∀ h : UH, HW (mkw c0 c1 c2 c3 c4 c5 c6 c7 c8 c9 c10 c11 c12 c13) d h → ∀ QQ : UR → Prop, QQ (some (.int r), h) → Ends (EX D) (u_at kl_258) (4, [some (.ref a0), some (.int x1), some (.int x2), some (.int x3)], [], h) QQ) := by
  refine G_258.partial_correctness _ _ (motive := fun lab xs ys zs r =>
    (∀ (x1 : Int32) (x2 : Int32) (x3 : Int32), lab = 0 → xs = [x1, x2, x3] → ys = [] → zs = [] → ∀ h : UH, HW (mkw c0 c1 c2 c3 c4 c5 c6 c7 c8 c9 c10 c11 c12 c13) d h → ∀ QQ : UR → Prop, QQ (some (.int r), h) → Ends (EX D) (u_at kl_258) (4, [some (.ref a0), some (.int x1), some (.int x2), some (.int x3)], [], h) QQ)) ?_
  intro G ih lab xs ys zs r hF
  · intro x1 x2 x3 e1 e2 e3 e4 h hW QQ hQ
    subst e1 e2 e3 e4
    refine en_segs [(4, .iload_n 3, []), (5, .aload_n 0, [])] (by decide +kernel) (y := (6, [some (.ref a0), some (.int x1), some (.int x2), some (.int x3)], [.ref a0, .int x3], h)) rfl ?_
    refine en_get (by decide +kernel : u_at kl_258 6 = some (.getfield 39, [12, 20])) hW ha0 (by decide) rfl ?_
    refine en_segs [(9, .iconst 2, [])] (by decide +kernel) (y := (10, [some (.ref a0), some (.int x1), some (.int x2), some (.int x3)], [.int 2, .ref (aP d 12 20 a0), .int x3], h)) rfl ?_
    obtain ⟨v1, hv1, hF⟩ := ob_some hF
    refine en_iald (by decide +kernel : u_at kl_258 10 = some (.iaload, [])) hW ha0 rfl (by decide) hv1 ?_
    refine en_ic_ge (by decide +kernel : u_at kl_258 11 = some (.if_icmp .ge 40, [51])) (fun b2 => ?_) (fun b2 => ?_)
    · replace hF := i_pos b2 hF
      refine en_segs [(51, .iload_n 2, [])] (by decide +kernel) (y := (52, [some (.ref a0), some (.int x1), some (.int x2), some (.int x3)], [.int x2], h)) rfl ?_
      obtain rfl := Option.some.inj hF
      exact en_ret (by decide +kernel : u_at kl_258 52 = some (.ireturn, [0])) rfl (hQ)
    · replace hF := i_neg b2 hF
      refine en_segs [(14, .iload_n 2, []), (15, .aload_n 0, []), (16, .iload_n 3, [])] (by decide +kernel) (y := (17, [some (.ref a0), some (.int x1), some (.int x2), some (.int x3)], [.int x3, .ref a0, .int x2], h)) rfl ?_
      obtain ⟨r3, hr3, hF⟩ := ob_some hF
      refine en_vi (r := [.int x2]) (by decide +kernel : u_at kl_258 17 = some (.invokevirtual 346, [224, 1, 12])) hW ha0 rfl rfl (Nat.le_of_ble_eq_true rfl) (e_224 (D := D) (by omega) hW ha0 hr3) (fun h' q => ?_)
      subst q
      obtain ⟨t4, hX, hK⟩ := ob_some hF
      have j5 : Ends (EX D) (u_at kl_258) (43, [some (.ref a0), some (.int x1), some (.int x2), some (.int x3)], [.int t4, .int x2], h) QQ := by
        have hF := hK
        refine en_segs [(43, .iadd, []), (44, .istore_n 2, []), (45, .iinc 3 1, []), (48, .goto (-44), [4])] (by decide +kernel) (y := (4, [some (.ref a0), some (.int x1), some (.int (x2 + t4)), some (.int (x3 + 1))], [], h)) rfl ?_
        exact (ih _ _ _ _ _ hF) _ _ _ rfl rfl rfl rfl  _ hW _ hQ
      have hF := hX
      refine en_if_eq (by decide +kernel : u_at kl_258 20 = some (.ifCond .eq 22, [42])) (fun b6 => ?_) (fun b6 => ?_)
      · replace hF := i_pos b6 hF
        refine en_segs [(42, .iconst 0, [])] (by decide +kernel) (y := (43, [some (.ref a0), some (.int x1), some (.int x2), some (.int x3)], [.int 0, .int x2], h)) rfl ?_
        obtain rfl := Option.some.inj hF
        exact j5
      · replace hF := i_neg b6 hF
        refine en_segs [(23, .aload_n 0, [])] (by decide +kernel) (y := (24, [some (.ref a0), some (.int x1), some (.int x2), some (.int x3)], [.ref a0, .int x2], h)) rfl ?_
        refine en_get (by decide +kernel : u_at kl_258 24 = some (.getfield 45, [12, 24])) hW ha0 (by decide) rfl ?_
        refine en_segs [(27, .iload_n 3, [])] (by decide +kernel) (y := (28, [some (.ref a0), some (.int x1), some (.int x2), some (.int x3)], [.int x3, .ref (aP d 12 24 a0), .int x2], h)) rfl ?_
        obtain ⟨v7, hv7, hF⟩ := ob_some hF
        refine en_iald (by decide +kernel : u_at kl_258 28 = some (.iaload, [])) hW ha0 rfl (by decide) hv7 ?_
        refine en_segs [(29, .iload_n 1, [])] (by decide +kernel) (y := (30, [some (.ref a0), some (.int x1), some (.int x2), some (.int x3)], [.int x1, .int v7, .int x2], h)) rfl ?_
        refine en_ic_ne (by decide +kernel : u_at kl_258 30 = some (.if_icmp .ne 12, [42])) (fun b8 => ?_) (fun b8 => ?_)
        · replace hF := i_pos b8 hF
          refine en_segs [(33, .aload_n 0, []), (34, .iload_n 3, []), (35, .iconst 1, [])] (by decide +kernel) (y := (36, [some (.ref a0), some (.int x1), some (.int x2), some (.int x3)], [.int 1, .int x3, .ref a0, .int x2], h)) rfl ?_
          obtain ⟨r9, hr9, hF⟩ := ob_some hF
          refine en_vi (r := [.int x2]) (by decide +kernel : u_at kl_258 36 = some (.invokevirtual 343, [223, 2, 12])) hW ha0 rfl rfl (Nat.le_of_ble_eq_true rfl) (e_223 (D := D) (by omega) hW ha0 hr9) (fun h' q => ?_)
          subst q
          refine en_segs [(39, .goto 4, [43])] (by decide +kernel) (y := (43, [some (.ref a0), some (.int x1), some (.int x2), some (.int x3)], [.int r9, .int x2], h)) rfl ?_
          obtain rfl := Option.some.inj hF
          exact j5
        · replace hF := i_neg b8 hF
          refine en_segs [(42, .iconst 0, [])] (by decide +kernel) (y := (43, [some (.ref a0), some (.int x1), some (.int x2), some (.int x3)], [.int 0, .int x2], h)) rfl ?_
          obtain rfl := Option.some.inj hF
          exact j5
def F_258 (c12 : Cl) (a0 : Nat) (p1 : Int32) : Option Int32 :=
  G_258 c12 a0 0 [p1, 0, 0] [] []
set_option maxRecDepth 100000 in
set_option maxHeartbeats 4000000 in
/-- HeadCountsModel.livingAt -/
theorem e_258 {D : Nat} {c0 c1 c2 c3 c4 c5 c6 c7 c8 c9 c10 c11 c12 c13 : Cl} {d : Ad} {h : UH} {a0 : Nat} {p1 : Int32} {r : Int32} (hD : 3 ≤ D) (hW : HW (mkw c0 c1 c2 c3 c4 c5 c6 c7 c8 c9 c10 c11 c12 c13) d h) (ha0 : aK d a0 = (0, 12, 0)) (hF : F_258 c12 a0 p1 = some r) : ∃ q, EX D 258 [.ref a0, .int p1] h q ∧ q.1 = some (.int r) ∧ h = q.2 := by
  obtain ⟨D, rfl⟩ : ∃ E, D = E + 1 := ⟨D - 1, by omega⟩
  unfold F_258 at hF
  refine ex_in (kl := kl_258) (nL := 4) rfl (by decide +kernel) (Nat.le_of_ble_eq_true rfl) ?_
  obtain ⟨QQ, hQQ⟩ : ∃ QQ : UR → Prop, QQ = (fun q : UR => q.1 = some (.int r) ∧ h = q.2) := ⟨_, rfl⟩
  rw [← hQQ]
  have hQ : QQ (some (.int r), h) := by rw [hQQ]; exact ⟨rfl, rfl⟩
  clear hQQ
  show Ends (EX D) (u_at kl_258) (0, [some (.ref a0), some (.int p1), none, none], [], h) QQ
  refine en_segs [(0, .iconst 0, []), (1, .istore_n 2, []), (2, .iconst 0, []), (3, .istore_n 3, [])] (by decide +kernel) (y := (4, [some (.ref a0), some (.int p1), some (.int 0), some (.int 0)], [], h)) rfl ?_
  exact (g_258 (D := D) hD ha0 _ _ _ _ _ hF) _ _ _ rfl rfl rfl rfl  _ hW _ hQ
def G_259 (c12 : Cl) (a0 : Nat) (lab : Nat) (xs : List Int32) (ys : List Int64) (zs : List Nat) : Option Int32 := match lab, xs, ys, zs with
  | 0, [x1, x2, x3], [], [] =>
    ald (cA c12 20 a0) 221 2 >>= fun v1 =>
    if v1 ≤ x3 then
    some x2
    else
    F_224 c12 a0 x3 >>= fun r3 =>
    ((if r3 = 0 then
    some 0
    else
    ald (cA c12 20 a0) 221 (88 + x1) >>= fun v7 =>
    ald (cA c12 24 a0) 6 x3 >>= fun v8 =>
    F_171 v7 v8 >>= fun r9 =>
    if r9 = 0 then
    some 0
    else
    F_223 c12 a0 x3 1 >>= fun r11 =>
    some r11) : Option (Int32)) >>= fun (t4 : Int32) =>
    G_259 c12 a0 0 [x1, x2 + t4, x3 + 1] [] []
  | _, _, _, _ => none
partial_fixpoint
set_option maxRecDepth 100000 in
set_option maxHeartbeats 4000000 in
theorem g_259 {D : Nat} (hD : 3 ≤ D + 1) {c0 c1 c2 c3 c4 c5 c6 c7 c8 c9 c10 c11 c12 c13 : Cl} {d : Ad} {a0 : Nat} (ha0 : aK d a0 = (0, 12, 0)) : ∀ (lab : Nat) (xs : List Int32) (ys : List Int64) (zs : List Nat) (r : Int32), G_259 c12 a0 lab xs ys zs = some r →
    (∀ (x1 : Int32) (x2 : Int32) (x3 : Int32), lab = 0 → xs = [x1, x2, x3] → ys = [] → zs = [] → ∀ h : UH, HW (mkw c0 c1 c2 c3 c4 c5 c6 c7 c8 c9 c10 c11 c12 c13) d h → ∀ QQ : UR → Prop, QQ (some (.int r), h) → Ends (EX D) (u_at kl_259) (4, [some (.ref a0), some (.int x1), some (.int x2), some (.int x3)], [], h) QQ) := by
  refine G_259.partial_correctness _ _ (motive := fun lab xs ys zs r =>
    (∀ (x1 : Int32) (x2 : Int32) (x3 : Int32), lab = 0 → xs = [x1, x2, x3] → ys = [] → zs = [] → ∀ h : UH, HW (mkw c0 c1 c2 c3 c4 c5 c6 c7 c8 c9 c10 c11 c12 c13) d h → ∀ QQ : UR → Prop, QQ (some (.int r), h) → Ends (EX D) (u_at kl_259) (4, [some (.ref a0), some (.int x1), some (.int x2), some (.int x3)], [], h) QQ)) ?_
  intro G ih lab xs ys zs r hF
  · intro x1 x2 x3 e1 e2 e3 e4 h hW QQ hQ
    subst e1 e2 e3 e4
    refine en_segs [(4, .iload_n 3, []), (5, .aload_n 0, [])] (by decide +kernel) (y := (6, [some (.ref a0), some (.int x1), some (.int x2), some (.int x3)], [.ref a0, .int x3], h)) rfl ?_
    refine en_get (by decide +kernel : u_at kl_259 6 = some (.getfield 39, [12, 20])) hW ha0 (by decide) rfl ?_
    refine en_segs [(9, .iconst 2, [])] (by decide +kernel) (y := (10, [some (.ref a0), some (.int x1), some (.int x2), some (.int x3)], [.int 2, .ref (aP d 12 20 a0), .int x3], h)) rfl ?_
    obtain ⟨v1, hv1, hF⟩ := ob_some hF
    refine en_iald (by decide +kernel : u_at kl_259 10 = some (.iaload, [])) hW ha0 rfl (by decide) hv1 ?_
    refine en_ic_ge (by decide +kernel : u_at kl_259 11 = some (.if_icmp .ge 51, [62])) (fun b2 => ?_) (fun b2 => ?_)
    · replace hF := i_pos b2 hF
      refine en_segs [(62, .iload_n 2, [])] (by decide +kernel) (y := (63, [some (.ref a0), some (.int x1), some (.int x2), some (.int x3)], [.int x2], h)) rfl ?_
      obtain rfl := Option.some.inj hF
      exact en_ret (by decide +kernel : u_at kl_259 63 = some (.ireturn, [0])) rfl (hQ)
    · replace hF := i_neg b2 hF
      refine en_segs [(14, .iload_n 2, []), (15, .aload_n 0, []), (16, .iload_n 3, [])] (by decide +kernel) (y := (17, [some (.ref a0), some (.int x1), some (.int x2), some (.int x3)], [.int x3, .ref a0, .int x2], h)) rfl ?_
      obtain ⟨r3, hr3, hF⟩ := ob_some hF
      refine en_vi (r := [.int x2]) (by decide +kernel : u_at kl_259 17 = some (.invokevirtual 346, [224, 1, 12])) hW ha0 rfl rfl (Nat.le_of_ble_eq_true rfl) (e_224 (D := D) (by omega) hW ha0 hr3) (fun h' q => ?_)
      subst q
      obtain ⟨t4, hX, hK⟩ := ob_some hF
      have j5 : Ends (EX D) (u_at kl_259) (54, [some (.ref a0), some (.int x1), some (.int x2), some (.int x3)], [.int t4, .int x2], h) QQ := by
        have hF := hK
        refine en_segs [(54, .iadd, []), (55, .istore_n 2, []), (56, .iinc 3 1, []), (59, .goto (-55), [4])] (by decide +kernel) (y := (4, [some (.ref a0), some (.int x1), some (.int (x2 + t4)), some (.int (x3 + 1))], [], h)) rfl ?_
        exact (ih _ _ _ _ _ hF) _ _ _ rfl rfl rfl rfl  _ hW _ hQ
      have hF := hX
      refine en_if_eq (by decide +kernel : u_at kl_259 20 = some (.ifCond .eq 33, [53])) (fun b6 => ?_) (fun b6 => ?_)
      · replace hF := i_pos b6 hF
        refine en_segs [(53, .iconst 0, [])] (by decide +kernel) (y := (54, [some (.ref a0), some (.int x1), some (.int x2), some (.int x3)], [.int 0, .int x2], h)) rfl ?_
        obtain rfl := Option.some.inj hF
        exact j5
      · replace hF := i_neg b6 hF
        refine en_segs [(23, .aload_n 0, [])] (by decide +kernel) (y := (24, [some (.ref a0), some (.int x1), some (.int x2), some (.int x3)], [.ref a0, .int x2], h)) rfl ?_
        refine en_get (by decide +kernel : u_at kl_259 24 = some (.getfield 39, [12, 20])) hW ha0 (by decide) rfl ?_
        refine en_segs [(27, .bipush 88, []), (29, .iload_n 1, []), (30, .iadd, [])] (by decide +kernel) (y := (31, [some (.ref a0), some (.int x1), some (.int x2), some (.int x3)], [.int (88 + x1), .ref (aP d 12 20 a0), .int x2], h)) rfl ?_
        obtain ⟨v7, hv7, hF⟩ := ob_some hF
        refine en_iald (by decide +kernel : u_at kl_259 31 = some (.iaload, [])) hW ha0 rfl (by decide) hv7 ?_
        refine en_segs [(32, .aload_n 0, [])] (by decide +kernel) (y := (33, [some (.ref a0), some (.int x1), some (.int x2), some (.int x3)], [.ref a0, .int v7, .int x2], h)) rfl ?_
        refine en_get (by decide +kernel : u_at kl_259 33 = some (.getfield 45, [12, 24])) hW ha0 (by decide) rfl ?_
        refine en_segs [(36, .iload_n 3, [])] (by decide +kernel) (y := (37, [some (.ref a0), some (.int x1), some (.int x2), some (.int x3)], [.int x3, .ref (aP d 12 24 a0), .int v7, .int x2], h)) rfl ?_
        obtain ⟨v8, hv8, hF⟩ := ob_some hF
        refine en_iald (by decide +kernel : u_at kl_259 37 = some (.iaload, [])) hW ha0 rfl (by decide) hv8 ?_
        obtain ⟨r9, hr9, hF⟩ := ob_some hF
        refine en_si (r := [.int x2]) (by decide +kernel : u_at kl_259 38 = some (.invokestatic 361, [171, 2])) rfl rfl (Nat.le_of_ble_eq_true rfl) (e_171 (D := D) (by omega) hW hr9) (fun h' q => ?_)
        subst q
        refine en_if_eq (by decide +kernel : u_at kl_259 41 = some (.ifCond .eq 12, [53])) (fun b10 => ?_) (fun b10 => ?_)
        · replace hF := i_pos b10 hF
          refine en_segs [(53, .iconst 0, [])] (by decide +kernel) (y := (54, [some (.ref a0), some (.int x1), some (.int x2), some (.int x3)], [.int 0, .int x2], h)) rfl ?_
          obtain rfl := Option.some.inj hF
          exact j5
        · replace hF := i_neg b10 hF
          refine en_segs [(44, .aload_n 0, []), (45, .iload_n 3, []), (46, .iconst 1, [])] (by decide +kernel) (y := (47, [some (.ref a0), some (.int x1), some (.int x2), some (.int x3)], [.int 1, .int x3, .ref a0, .int x2], h)) rfl ?_
          obtain ⟨r11, hr11, hF⟩ := ob_some hF
          refine en_vi (r := [.int x2]) (by decide +kernel : u_at kl_259 47 = some (.invokevirtual 343, [223, 2, 12])) hW ha0 rfl rfl (Nat.le_of_ble_eq_true rfl) (e_223 (D := D) (by omega) hW ha0 hr11) (fun h' q => ?_)
          subst q
          refine en_segs [(50, .goto 4, [54])] (by decide +kernel) (y := (54, [some (.ref a0), some (.int x1), some (.int x2), some (.int x3)], [.int r11, .int x2], h)) rfl ?_
          obtain rfl := Option.some.inj hF
          exact j5
def F_259 (c12 : Cl) (a0 : Nat) (p1 : Int32) : Option Int32 :=
  G_259 c12 a0 0 [p1, 0, 0] [] []
set_option maxRecDepth 100000 in
set_option maxHeartbeats 4000000 in
/-- HeadCountsModel.livingBy -/
theorem e_259 {D : Nat} {c0 c1 c2 c3 c4 c5 c6 c7 c8 c9 c10 c11 c12 c13 : Cl} {d : Ad} {h : UH} {a0 : Nat} {p1 : Int32} {r : Int32} (hD : 3 ≤ D) (hW : HW (mkw c0 c1 c2 c3 c4 c5 c6 c7 c8 c9 c10 c11 c12 c13) d h) (ha0 : aK d a0 = (0, 12, 0)) (hF : F_259 c12 a0 p1 = some r) : ∃ q, EX D 259 [.ref a0, .int p1] h q ∧ q.1 = some (.int r) ∧ h = q.2 := by
  obtain ⟨D, rfl⟩ : ∃ E, D = E + 1 := ⟨D - 1, by omega⟩
  unfold F_259 at hF
  refine ex_in (kl := kl_259) (nL := 4) rfl (by decide +kernel) (Nat.le_of_ble_eq_true rfl) ?_
  obtain ⟨QQ, hQQ⟩ : ∃ QQ : UR → Prop, QQ = (fun q : UR => q.1 = some (.int r) ∧ h = q.2) := ⟨_, rfl⟩
  rw [← hQQ]
  have hQ : QQ (some (.int r), h) := by rw [hQQ]; exact ⟨rfl, rfl⟩
  clear hQQ
  show Ends (EX D) (u_at kl_259) (0, [some (.ref a0), some (.int p1), none, none], [], h) QQ
  refine en_segs [(0, .iconst 0, []), (1, .istore_n 2, []), (2, .iconst 0, []), (3, .istore_n 3, [])] (by decide +kernel) (y := (4, [some (.ref a0), some (.int p1), some (.int 0), some (.int 0)], [], h)) rfl ?_
  exact (g_259 (D := D) hD ha0 _ _ _ _ _ hF) _ _ _ rfl rfl rfl rfl  _ hW _ hQ
def F_260 (c12 : Cl) (a0 : Nat) (p1 : Int32) (p2 : Int32) : Option Int32 :=
  F_224 c12 a0 p1 >>= fun r1 =>
  ((if r1 = 0 then
  some 0
  else
  ald (cA c12 24 a0) 6 p1 >>= fun v6 =>
  F_232 c12 a0 v6 >>= fun r7 =>
  F_171 r7 p2 >>= fun r8 =>
  if r8 = 0 then
  some 0
  else
  F_258 c12 a0 p2 >>= fun r10 =>
  F_223 c12 a0 p1 1 >>= fun r11 =>
  ald (cA c12 20 a0) 221 (82 + p2) >>= fun v12 =>
  if v12 < (r10 + r11) then
  some 0
  else
  some 1) : Option (Int32)) >>= fun (t2 : Int32) =>
  zb t2 >>= fun z4 => some z4
set_option maxRecDepth 100000 in
set_option maxHeartbeats 4000000 in
/-- HeadCountsModel.canStep -/
theorem e_260 {D : Nat} {c0 c1 c2 c3 c4 c5 c6 c7 c8 c9 c10 c11 c12 c13 : Cl} {d : Ad} {h : UH} {a0 : Nat} {p1 : Int32} {p2 : Int32} {r : Int32} (hD : 4 ≤ D) (hW : HW (mkw c0 c1 c2 c3 c4 c5 c6 c7 c8 c9 c10 c11 c12 c13) d h) (ha0 : aK d a0 = (0, 12, 0)) (hF : F_260 c12 a0 p1 p2 = some r) : ∃ q, EX D 260 [.ref a0, .int p1, .int p2] h q ∧ q.1 = some (.int r) ∧ h = q.2 := by
  obtain ⟨D, rfl⟩ : ∃ E, D = E + 1 := ⟨D - 1, by omega⟩
  unfold F_260 at hF
  refine ex_in (kl := kl_260) (nL := 3) rfl (by decide +kernel) (Nat.le_of_ble_eq_true rfl) ?_
  obtain ⟨QQ, hQQ⟩ : ∃ QQ : UR → Prop, QQ = (fun q : UR => q.1 = some (.int r) ∧ h = q.2) := ⟨_, rfl⟩
  rw [← hQQ]
  have hQ : QQ (some (.int r), h) := by rw [hQQ]; exact ⟨rfl, rfl⟩
  clear hQQ
  show Ends (EX D) (u_at kl_260) (0, [some (.ref a0), some (.int p1), some (.int p2)], [], h) QQ
  refine en_segs [(0, .aload_n 0, []), (1, .iload_n 1, [])] (by decide +kernel) (y := (2, [some (.ref a0), some (.int p1), some (.int p2)], [.int p1, .ref a0], h)) rfl ?_
  obtain ⟨r1, hr1, hF⟩ := ob_some hF
  refine en_vi (r := []) (by decide +kernel : u_at kl_260 2 = some (.invokevirtual 346, [224, 1, 12])) hW ha0 rfl rfl (Nat.le_of_ble_eq_true rfl) (e_224 (D := D) (by omega) hW ha0 hr1) (fun h' q => ?_)
  subst q
  obtain ⟨t2, hX, hK⟩ := ob_some hF
  have j3 : Ends (EX D) (u_at kl_260) (54, [some (.ref a0), some (.int p1), some (.int p2)], [.int t2], h) QQ := by
    have hF := hK
    obtain ⟨z4, hz4, hF⟩ := ob_some hF
    obtain rfl := Option.some.inj hF
    exact en_retZ (by decide +kernel : u_at kl_260 54 = some (.ireturn, [1])) hz4 (hQ)
  have hF := hX
  refine en_if_eq (by decide +kernel : u_at kl_260 5 = some (.ifCond .eq 48, [53])) (fun b5 => ?_) (fun b5 => ?_)
  · replace hF := i_pos b5 hF
    refine en_segs [(53, .iconst 0, [])] (by decide +kernel) (y := (54, [some (.ref a0), some (.int p1), some (.int p2)], [.int 0], h)) rfl ?_
    obtain rfl := Option.some.inj hF
    exact j3
  · replace hF := i_neg b5 hF
    refine en_segs [(8, .aload_n 0, []), (9, .aload_n 0, [])] (by decide +kernel) (y := (10, [some (.ref a0), some (.int p1), some (.int p2)], [.ref a0, .ref a0], h)) rfl ?_
    refine en_get (by decide +kernel : u_at kl_260 10 = some (.getfield 45, [12, 24])) hW ha0 (by decide) rfl ?_
    refine en_segs [(13, .iload_n 1, [])] (by decide +kernel) (y := (14, [some (.ref a0), some (.int p1), some (.int p2)], [.int p1, .ref (aP d 12 24 a0), .ref a0], h)) rfl ?_
    obtain ⟨v6, hv6, hF⟩ := ob_some hF
    refine en_iald (by decide +kernel : u_at kl_260 14 = some (.iaload, [])) hW ha0 rfl (by decide) hv6 ?_
    obtain ⟨r7, hr7, hF⟩ := ob_some hF
    refine en_vi (r := []) (by decide +kernel : u_at kl_260 15 = some (.invokevirtual 378, [232, 1, 12])) hW ha0 rfl rfl (Nat.le_of_ble_eq_true rfl) (e_232 (D := D) (by omega) hW ha0 hr7) (fun h' q => ?_)
    subst q
    refine en_segs [(18, .iload_n 2, [])] (by decide +kernel) (y := (19, [some (.ref a0), some (.int p1), some (.int p2)], [.int p2, .int r7], h)) rfl ?_
    obtain ⟨r8, hr8, hF⟩ := ob_some hF
    refine en_si (r := []) (by decide +kernel : u_at kl_260 19 = some (.invokestatic 361, [171, 2])) rfl rfl (Nat.le_of_ble_eq_true rfl) (e_171 (D := D) (by omega) hW hr8) (fun h' q => ?_)
    subst q
    refine en_if_eq (by decide +kernel : u_at kl_260 22 = some (.ifCond .eq 31, [53])) (fun b9 => ?_) (fun b9 => ?_)
    · replace hF := i_pos b9 hF
      refine en_segs [(53, .iconst 0, [])] (by decide +kernel) (y := (54, [some (.ref a0), some (.int p1), some (.int p2)], [.int 0], h)) rfl ?_
      obtain rfl := Option.some.inj hF
      exact j3
    · replace hF := i_neg b9 hF
      refine en_segs [(25, .aload_n 0, []), (26, .iload_n 2, [])] (by decide +kernel) (y := (27, [some (.ref a0), some (.int p1), some (.int p2)], [.int p2, .ref a0], h)) rfl ?_
      obtain ⟨r10, hr10, hF⟩ := ob_some hF
      refine en_vi (r := []) (by decide +kernel : u_at kl_260 27 = some (.invokevirtual 437, [258, 1, 12])) hW ha0 rfl rfl (Nat.le_of_ble_eq_true rfl) (e_258 (D := D) (by omega) hW ha0 hr10) (fun h' q => ?_)
      subst q
      refine en_segs [(30, .aload_n 0, []), (31, .iload_n 1, []), (32, .iconst 1, [])] (by decide +kernel) (y := (33, [some (.ref a0), some (.int p1), some (.int p2)], [.int 1, .int p1, .ref a0, .int r10], h)) rfl ?_
      obtain ⟨r11, hr11, hF⟩ := ob_some hF
      refine en_vi (r := [.int r10]) (by decide +kernel : u_at kl_260 33 = some (.invokevirtual 343, [223, 2, 12])) hW ha0 rfl rfl (Nat.le_of_ble_eq_true rfl) (e_223 (D := D) (by omega) hW ha0 hr11) (fun h' q => ?_)
      subst q
      refine en_segs [(36, .iadd, []), (37, .aload_n 0, [])] (by decide +kernel) (y := (38, [some (.ref a0), some (.int p1), some (.int p2)], [.ref a0, .int (r10 + r11)], h)) rfl ?_
      refine en_get (by decide +kernel : u_at kl_260 38 = some (.getfield 39, [12, 20])) hW ha0 (by decide) rfl ?_
      refine en_segs [(41, .bipush 82, []), (43, .iload_n 2, []), (44, .iadd, [])] (by decide +kernel) (y := (45, [some (.ref a0), some (.int p1), some (.int p2)], [.int (82 + p2), .ref (aP d 12 20 a0), .int (r10 + r11)], h)) rfl ?_
      obtain ⟨v12, hv12, hF⟩ := ob_some hF
      refine en_iald (by decide +kernel : u_at kl_260 45 = some (.iaload, [])) hW ha0 rfl (by decide) hv12 ?_
      refine en_ic_gt (by decide +kernel : u_at kl_260 46 = some (.if_icmp .gt 7, [53])) (fun b13 => ?_) (fun b13 => ?_)
      · replace hF := i_pos b13 hF
        refine en_segs [(53, .iconst 0, [])] (by decide +kernel) (y := (54, [some (.ref a0), some (.int p1), some (.int p2)], [.int 0], h)) rfl ?_
        obtain rfl := Option.some.inj hF
        exact j3
      · replace hF := i_neg b13 hF
        refine en_segs [(49, .iconst 1, []), (50, .goto 4, [54])] (by decide +kernel) (y := (54, [some (.ref a0), some (.int p1), some (.int p2)], [.int 1], h)) rfl ?_
        obtain rfl := Option.some.inj hF
        exact j3
def G_261 (c12 : Cl) (a0 : Nat) (lab : Nat) (xs : List Int32) (ys : List Int64) (zs : List Nat) : Option Int32 := match lab, xs, ys, zs with
  | 0, [x1, x2, x3], [], [] =>
    if x2 ≤ x3 then
    some 1
    else
    ald (cA c12 20 a0) 221 (184 + (3 * x3)) >>= fun v2 =>
    if v2 = x1 then
    ald (cA c12 20 a0) 221 ((184 + (3 * x3)) + 1) >>= fun v4 =>
    F_259 c12 a0 v4 >>= fun r5 =>
    ald (cA c12 20 a0) 221 ((184 + (3 * x3)) + 2) >>= fun v6 =>
    if r5 = v6 then
    G_261 c12 a0 0 [x1, x2, x3 + 1] [] []
    else
    some 0
    else
    G_261 c12 a0 0 [x1, x2, x3 + 1] [] []
  | _, _, _, _ => none
partial_fixpoint
set_option maxRecDepth 100000 in
set_option maxHeartbeats 4000000 in
theorem g_261 {D : Nat} (hD : 4 ≤ D + 1) {c0 c1 c2 c3 c4 c5 c6 c7 c8 c9 c10 c11 c12 c13 : Cl} {d : Ad} {a0 : Nat} (ha0 : aK d a0 = (0, 12, 0)) : ∀ (lab : Nat) (xs : List Int32) (ys : List Int64) (zs : List Nat) (r : Int32), G_261 c12 a0 lab xs ys zs = some r →
    (∀ (x1 : Int32) (x2 : Int32) (x3 : Int32), lab = 0 → xs = [x1, x2, x3] → ys = [] → zs = [] → ∀ h : UH, HW (mkw c0 c1 c2 c3 c4 c5 c6 c7 c8 c9 c10 c11 c12 c13) d h → ∀ QQ : UR → Prop, QQ (some (.int r), h) → Ends (EX D) (u_at kl_261) (2, [some (.ref a0), some (.int x1), some (.int x2), some (.int x3), none], [], h) QQ) := by
  refine G_261.partial_correctness _ _ (motive := fun lab xs ys zs r =>
    (∀ (x1 : Int32) (x2 : Int32) (x3 : Int32), lab = 0 → xs = [x1, x2, x3] → ys = [] → zs = [] → ∀ h : UH, HW (mkw c0 c1 c2 c3 c4 c5 c6 c7 c8 c9 c10 c11 c12 c13) d h → ∀ QQ : UR → Prop, QQ (some (.int r), h) → Ends (EX D) (u_at kl_261) (2, [some (.ref a0), some (.int x1), some (.int x2), some (.int x3), none], [], h) QQ)) ?_
  intro G ih lab xs ys zs r hF
  · intro x1 x2 x3 e1 e2 e3 e4 h hW QQ hQ
    subst e1 e2 e3 e4
    refine en_segs [(2, .iload_n 3, []), (3, .iload_n 2, [])] (by decide +kernel) (y := (4, [some (.ref a0), some (.int x1), some (.int x2), some (.int x3), none], [.int x2, .int x3], h)) rfl ?_
    refine en_ic_ge (by decide +kernel : u_at kl_261 4 = some (.if_icmp .ge 56, [60])) (fun b1 => ?_) (fun b1 => ?_)
    · replace hF := i_pos b1 hF
      refine en_segs [(60, .iconst 1, [])] (by decide +kernel) (y := (61, [some (.ref a0), some (.int x1), some (.int x2), some (.int x3), none], [.int 1], h)) rfl ?_
      obtain rfl := Option.some.inj hF
      exact en_ret (by decide +kernel : u_at kl_261 61 = some (.ireturn, [1])) rfl (hQ)
    · replace hF := i_neg b1 hF
      refine en_segs [(7, .sipush 184, []), (10, .iconst 3, []), (11, .iload_n 3, []), (12, .imul, []), (13, .iadd, []), (14, .istore 4, []), (16, .aload_n 0, [])] (by decide +kernel) (y := (17, [some (.ref a0), some (.int x1), some (.int x2), some (.int x3), some (.int (184 + (3 * x3)))], [.ref a0], h)) rfl ?_
      refine en_get (by decide +kernel : u_at kl_261 17 = some (.getfield 39, [12, 20])) hW ha0 (by decide) rfl ?_
      refine en_segs [(20, .iload 4, [])] (by decide +kernel) (y := (22, [some (.ref a0), some (.int x1), some (.int x2), some (.int x3), some (.int (184 + (3 * x3)))], [.int (184 + (3 * x3)), .ref (aP d 12 20 a0)], h)) rfl ?_
      obtain ⟨v2, hv2, hF⟩ := ob_some hF
      refine en_iald (by decide +kernel : u_at kl_261 22 = some (.iaload, [])) hW ha0 rfl (by decide) hv2 ?_
      refine en_segs [(23, .iload_n 1, [])] (by decide +kernel) (y := (24, [some (.ref a0), some (.int x1), some (.int x2), some (.int x3), some (.int (184 + (3 * x3)))], [.int x1, .int v2], h)) rfl ?_
      refine en_ic_ne (by decide +kernel : u_at kl_261 24 = some (.if_icmp .ne 30, [54])) (fun b3 => ?_) (fun b3 => ?_)
      · replace hF := i_pos b3 hF
        refine en_segs [(27, .aload_n 0, []), (28, .aload_n 0, [])] (by decide +kernel) (y := (29, [some (.ref a0), some (.int x1), some (.int x2), some (.int x3), some (.int (184 + (3 * x3)))], [.ref a0, .ref a0], h)) rfl ?_
        refine en_get (by decide +kernel : u_at kl_261 29 = some (.getfield 39, [12, 20])) hW ha0 (by decide) rfl ?_
        refine en_segs [(32, .iload 4, []), (34, .iconst 1, []), (35, .iadd, [])] (by decide +kernel) (y := (36, [some (.ref a0), some (.int x1), some (.int x2), some (.int x3), some (.int (184 + (3 * x3)))], [.int ((184 + (3 * x3)) + 1), .ref (aP d 12 20 a0), .ref a0], h)) rfl ?_
        obtain ⟨v4, hv4, hF⟩ := ob_some hF
        refine en_iald (by decide +kernel : u_at kl_261 36 = some (.iaload, [])) hW ha0 rfl (by decide) hv4 ?_
        obtain ⟨r5, hr5, hF⟩ := ob_some hF
        refine en_vi (r := []) (by decide +kernel : u_at kl_261 37 = some (.invokevirtual 440, [259, 1, 12])) hW ha0 rfl rfl (Nat.le_of_ble_eq_true rfl) (e_259 (D := D) (by omega) hW ha0 hr5) (fun h' q => ?_)
        subst q
        refine en_segs [(40, .aload_n 0, [])] (by decide +kernel) (y := (41, [some (.ref a0), some (.int x1), some (.int x2), some (.int x3), some (.int (184 + (3 * x3)))], [.ref a0, .int r5], h)) rfl ?_
        refine en_get (by decide +kernel : u_at kl_261 41 = some (.getfield 39, [12, 20])) hW ha0 (by decide) rfl ?_
        refine en_segs [(44, .iload 4, []), (46, .iconst 2, []), (47, .iadd, [])] (by decide +kernel) (y := (48, [some (.ref a0), some (.int x1), some (.int x2), some (.int x3), some (.int (184 + (3 * x3)))], [.int ((184 + (3 * x3)) + 2), .ref (aP d 12 20 a0), .int r5], h)) rfl ?_
        obtain ⟨v6, hv6, hF⟩ := ob_some hF
        refine en_iald (by decide +kernel : u_at kl_261 48 = some (.iaload, [])) hW ha0 rfl (by decide) hv6 ?_
        refine en_ic_eq (by decide +kernel : u_at kl_261 49 = some (.if_icmp .eq 5, [54])) (fun b7 => ?_) (fun b7 => ?_)
        · replace hF := i_pos b7 hF
          refine en_segs [(54, .iinc 3 1, []), (57, .goto (-55), [2])] (by decide +kernel) (y := (2, [some (.ref a0), some (.int x1), some (.int x2), some (.int (x3 + 1)), some (.int (184 + (3 * x3)))], [], h)) rfl ?_
          refine en_fg (fg_k (fg_k (fg_k (fg_k (fg_d fg_0))))) ?_
          exact (ih _ _ _ _ _ hF) _ _ _ rfl rfl rfl rfl  _ hW _ hQ
        · replace hF := i_neg b7 hF
          refine en_segs [(52, .iconst 0, [])] (by decide +kernel) (y := (53, [some (.ref a0), some (.int x1), some (.int x2), some (.int x3), some (.int (184 + (3 * x3)))], [.int 0], h)) rfl ?_
          obtain rfl := Option.some.inj hF
          exact en_ret (by decide +kernel : u_at kl_261 53 = some (.ireturn, [1])) rfl (hQ)
      · replace hF := i_neg b3 hF
        refine en_segs [(54, .iinc 3 1, []), (57, .goto (-55), [2])] (by decide +kernel) (y := (2, [some (.ref a0), some (.int x1), some (.int x2), some (.int (x3 + 1)), some (.int (184 + (3 * x3)))], [], h)) rfl ?_
        refine en_fg (fg_k (fg_k (fg_k (fg_k (fg_d fg_0))))) ?_
        exact (ih _ _ _ _ _ hF) _ _ _ rfl rfl rfl rfl  _ hW _ hQ
def F_261 (c12 : Cl) (a0 : Nat) (p1 : Int32) (p2 : Int32) : Option Int32 :=
  G_261 c12 a0 0 [p1, p2, 0] [] []
set_option maxRecDepth 100000 in
set_option maxHeartbeats 4000000 in
/-- HeadCountsModel.isAsTold -/
theorem e_261 {D : Nat} {c0 c1 c2 c3 c4 c5 c6 c7 c8 c9 c10 c11 c12 c13 : Cl} {d : Ad} {h : UH} {a0 : Nat} {p1 : Int32} {p2 : Int32} {r : Int32} (hD : 4 ≤ D) (hW : HW (mkw c0 c1 c2 c3 c4 c5 c6 c7 c8 c9 c10 c11 c12 c13) d h) (ha0 : aK d a0 = (0, 12, 0)) (hF : F_261 c12 a0 p1 p2 = some r) : ∃ q, EX D 261 [.ref a0, .int p1, .int p2] h q ∧ q.1 = some (.int r) ∧ h = q.2 := by
  obtain ⟨D, rfl⟩ : ∃ E, D = E + 1 := ⟨D - 1, by omega⟩
  unfold F_261 at hF
  refine ex_in (kl := kl_261) (nL := 5) rfl (by decide +kernel) (Nat.le_of_ble_eq_true rfl) ?_
  obtain ⟨QQ, hQQ⟩ : ∃ QQ : UR → Prop, QQ = (fun q : UR => q.1 = some (.int r) ∧ h = q.2) := ⟨_, rfl⟩
  rw [← hQQ]
  have hQ : QQ (some (.int r), h) := by rw [hQQ]; exact ⟨rfl, rfl⟩
  clear hQQ
  show Ends (EX D) (u_at kl_261) (0, [some (.ref a0), some (.int p1), some (.int p2), none, none], [], h) QQ
  refine en_segs [(0, .iconst 0, []), (1, .istore_n 3, [])] (by decide +kernel) (y := (2, [some (.ref a0), some (.int p1), some (.int p2), some (.int 0), none], [], h)) rfl ?_
  exact (g_261 (D := D) hD ha0 _ _ _ _ _ hF) _ _ _ rfl rfl rfl rfl  _ hW _ hQ
def G_262 (a0 : Nat) (lab : Nat) (xs : List Int32) (ys : List Int64) (zs : List Nat) (c12 : Cl) : Option Cl := match lab, xs, ys, zs with
  | 0, [x1], [], [] =>
    if 46656 ≤ x1 then
    G_262 a0 1 [0] [] [] c12
    else
    ldl (cB c12 26 a0) 46656 x1 >>= fun v2 =>
    stl c12 27 a0 46656 x1 v2 >>= fun c12_3 =>
    G_262 a0 0 [x1 + 1] [] [] c12_3
  | 1, [x1], [], [] =>
    if 46656 ≤ x1 then
    G_262 a0 4 [0] [] [] c12
    else
    ldl (cB c12 26 a0) 46656 x1 >>= fun v5 =>
    if (lg_cmp v5 0) = 0 then
    G_262 a0 1 [x1 + 1] [] [] c12
    else
    F_255 c12 a0 x1 >>= fun r7 =>
    G_262 a0 2 [x1, 0] [] [] r7
  | 2, [x1, x2], [], [] =>
    ald (cA c12 20 a0) 221 2 >>= fun v11 =>
    if v11 ≤ x2 then
    G_262 a0 1 [x1 + 1] [] [] c12
    else
    G_262 a0 3 [x1, x2, 0] [] [] c12
  | 3, [x1, x2, x3], [], [] =>
    ald (cA c12 20 a0) 221 0 >>= fun v13 =>
    if v13 ≤ x3 then
    G_262 a0 2 [x1, x2 + 1] [] [] c12
    else
    F_260 c12 a0 x2 x3 >>= fun r15 =>
    ((if r15 = 0 then
    some c12
    else
    ald (cA c12 25 a0) 6 x2 >>= fun v19 =>
    ald (cA c12 24 a0) 6 x2 >>= fun v20 =>
    ldl (cB c12 27 a0) 46656 (x1 + (v19 * (x3 - v20))) >>= fun v21 =>
    ldl (cB c12 26 a0) 46656 x1 >>= fun v22 =>
    stl c12 27 a0 46656 (x1 + (v19 * (x3 - v20))) (v21 + v22) >>= fun c12_23 =>
    some c12_23) : Option (Cl)) >>= fun (t16 : Cl) =>
    G_262 a0 3 [x1, x2, x3 + 1] [] [] t16
  | 4, [x1], [], [] =>
    if 46656 ≤ x1 then
    some c12
    else
    ldl (cB c12 27 a0) 46656 x1 >>= fun v9 =>
    stl c12 26 a0 46656 x1 v9 >>= fun c12_10 =>
    G_262 a0 4 [x1 + 1] [] [] c12_10
  | _, _, _, _ => none
partial_fixpoint
set_option maxRecDepth 100000 in
set_option maxHeartbeats 4000000 in
theorem g_262 {D : Nat} (hD : 5 ≤ D + 1) {c0 c1 c2 c3 c4 c5 c6 c7 c8 c9 c10 c11 c13 : Cl} {d : Ad} {a0 : Nat} (ha0 : aK d a0 = (0, 12, 0)) : ∀ (lab : Nat) (xs : List Int32) (ys : List Int64) (zs : List Nat) (c12 : Cl) (r : Cl), G_262 a0 lab xs ys zs c12 = some r →
    (∀ (x1 : Int32), lab = 0 → xs = [x1] → ys = [] → zs = [] → ∀ h : UH, HW (mkw c0 c1 c2 c3 c4 c5 c6 c7 c8 c9 c10 c11 c12 c13) d h → ∀ QQ : UR → Prop, (∀ h' : UH, HW (mkw c0 c1 c2 c3 c4 c5 c6 c7 c8 c9 c10 c11 r c13) d h' → QQ (none, h')) → Ends (EX D) (u_at kl_262) (2, [some (.ref a0), some (.int x1), none, none], [], h) QQ) ∧
    (∀ (x1 : Int32), lab = 1 → xs = [x1] → ys = [] → zs = [] → ∀ h : UH, HW (mkw c0 c1 c2 c3 c4 c5 c6 c7 c8 c9 c10 c11 c12 c13) d h → ∀ QQ : UR → Prop, (∀ h' : UH, HW (mkw c0 c1 c2 c3 c4 c5 c6 c7 c8 c9 c10 c11 r c13) d h' → QQ (none, h')) → Ends (EX D) (u_at kl_262) (28, [some (.ref a0), some (.int x1), none, none], [], h) QQ) ∧
    (∀ (x1 : Int32) (x2 : Int32), lab = 2 → xs = [x1, x2] → ys = [] → zs = [] → ∀ h : UH, HW (mkw c0 c1 c2 c3 c4 c5 c6 c7 c8 c9 c10 c11 c12 c13) d h → ∀ QQ : UR → Prop, (∀ h' : UH, HW (mkw c0 c1 c2 c3 c4 c5 c6 c7 c8 c9 c10 c11 r c13) d h' → QQ (none, h')) → Ends (EX D) (u_at kl_262) (55, [some (.ref a0), some (.int x1), some (.int x2), none], [], h) QQ) ∧
    (∀ (x1 : Int32) (x2 : Int32) (x3 : Int32), lab = 3 → xs = [x1, x2, x3] → ys = [] → zs = [] → ∀ h : UH, HW (mkw c0 c1 c2 c3 c4 c5 c6 c7 c8 c9 c10 c11 c12 c13) d h → ∀ QQ : UR → Prop, (∀ h' : UH, HW (mkw c0 c1 c2 c3 c4 c5 c6 c7 c8 c9 c10 c11 r c13) d h' → QQ (none, h')) → Ends (EX D) (u_at kl_262) (67, [some (.ref a0), some (.int x1), some (.int x2), some (.int x3)], [], h) QQ) ∧
    (∀ (x1 : Int32), lab = 4 → xs = [x1] → ys = [] → zs = [] → ∀ h : UH, HW (mkw c0 c1 c2 c3 c4 c5 c6 c7 c8 c9 c10 c11 c12 c13) d h → ∀ QQ : UR → Prop, (∀ h' : UH, HW (mkw c0 c1 c2 c3 c4 c5 c6 c7 c8 c9 c10 c11 r c13) d h' → QQ (none, h')) → Ends (EX D) (u_at kl_262) (137, [some (.ref a0), some (.int x1), none, none], [], h) QQ) := by
  refine G_262.partial_correctness _ (motive := fun lab xs ys zs c12 r =>
    (∀ (x1 : Int32), lab = 0 → xs = [x1] → ys = [] → zs = [] → ∀ h : UH, HW (mkw c0 c1 c2 c3 c4 c5 c6 c7 c8 c9 c10 c11 c12 c13) d h → ∀ QQ : UR → Prop, (∀ h' : UH, HW (mkw c0 c1 c2 c3 c4 c5 c6 c7 c8 c9 c10 c11 r c13) d h' → QQ (none, h')) → Ends (EX D) (u_at kl_262) (2, [some (.ref a0), some (.int x1), none, none], [], h) QQ) ∧
    (∀ (x1 : Int32), lab = 1 → xs = [x1] → ys = [] → zs = [] → ∀ h : UH, HW (mkw c0 c1 c2 c3 c4 c5 c6 c7 c8 c9 c10 c11 c12 c13) d h → ∀ QQ : UR → Prop, (∀ h' : UH, HW (mkw c0 c1 c2 c3 c4 c5 c6 c7 c8 c9 c10 c11 r c13) d h' → QQ (none, h')) → Ends (EX D) (u_at kl_262) (28, [some (.ref a0), some (.int x1), none, none], [], h) QQ) ∧
    (∀ (x1 : Int32) (x2 : Int32), lab = 2 → xs = [x1, x2] → ys = [] → zs = [] → ∀ h : UH, HW (mkw c0 c1 c2 c3 c4 c5 c6 c7 c8 c9 c10 c11 c12 c13) d h → ∀ QQ : UR → Prop, (∀ h' : UH, HW (mkw c0 c1 c2 c3 c4 c5 c6 c7 c8 c9 c10 c11 r c13) d h' → QQ (none, h')) → Ends (EX D) (u_at kl_262) (55, [some (.ref a0), some (.int x1), some (.int x2), none], [], h) QQ) ∧
    (∀ (x1 : Int32) (x2 : Int32) (x3 : Int32), lab = 3 → xs = [x1, x2, x3] → ys = [] → zs = [] → ∀ h : UH, HW (mkw c0 c1 c2 c3 c4 c5 c6 c7 c8 c9 c10 c11 c12 c13) d h → ∀ QQ : UR → Prop, (∀ h' : UH, HW (mkw c0 c1 c2 c3 c4 c5 c6 c7 c8 c9 c10 c11 r c13) d h' → QQ (none, h')) → Ends (EX D) (u_at kl_262) (67, [some (.ref a0), some (.int x1), some (.int x2), some (.int x3)], [], h) QQ) ∧
    (∀ (x1 : Int32), lab = 4 → xs = [x1] → ys = [] → zs = [] → ∀ h : UH, HW (mkw c0 c1 c2 c3 c4 c5 c6 c7 c8 c9 c10 c11 c12 c13) d h → ∀ QQ : UR → Prop, (∀ h' : UH, HW (mkw c0 c1 c2 c3 c4 c5 c6 c7 c8 c9 c10 c11 r c13) d h' → QQ (none, h')) → Ends (EX D) (u_at kl_262) (137, [some (.ref a0), some (.int x1), none, none], [], h) QQ)) ?_
  intro G ih lab xs ys zs c12 r hF
  refine ⟨?_, ?_, ?_, ?_, ?_⟩
  · intro x1 e1 e2 e3 e4 h hW QQ hQ
    subst e1 e2 e3 e4
    refine en_segs [(2, .iload_n 1, []), (3, .ldc 51, [46656])] (by decide +kernel) (y := (5, [some (.ref a0), some (.int x1), none, none], [.int 46656, .int x1], h)) rfl ?_
    refine en_ic_ge (by decide +kernel : u_at kl_262 5 = some (.if_icmp .ge 21, [26])) (fun b1 => ?_) (fun b1 => ?_)
    · replace hF := i_pos b1 hF
      refine en_segs [(26, .iconst 0, []), (27, .istore_n 1, [])] (by decide +kernel) (y := (28, [some (.ref a0), some (.int 0), none, none], [], h)) rfl ?_
      exact (ih _ _ _ _ _ _ hF).2.1 _ rfl rfl rfl rfl  _ hW _ hQ
    · replace hF := i_neg b1 hF
      refine en_segs [(8, .aload_n 0, [])] (by decide +kernel) (y := (9, [some (.ref a0), some (.int x1), none, none], [.ref a0], h)) rfl ?_
      refine en_get (by decide +kernel : u_at kl_262 9 = some (.getfield 55, [12, 27])) hW ha0 (by decide) rfl ?_
      refine en_segs [(12, .iload_n 1, []), (13, .aload_n 0, [])] (by decide +kernel) (y := (14, [some (.ref a0), some (.int x1), none, none], [.ref a0, .int x1, .ref (aP d 12 27 a0)], h)) rfl ?_
      refine en_get (by decide +kernel : u_at kl_262 14 = some (.getfield 52, [12, 26])) hW ha0 (by decide) rfl ?_
      refine en_segs [(17, .iload_n 1, [])] (by decide +kernel) (y := (18, [some (.ref a0), some (.int x1), none, none], [.int x1, .ref (aP d 12 26 a0), .int x1, .ref (aP d 12 27 a0)], h)) rfl ?_
      obtain ⟨v2, hv2, hF⟩ := ob_some hF
      refine en_lald (by decide +kernel : u_at kl_262 18 = some (.laload, [])) hW ha0 rfl (by decide) hv2 ?_
      obtain ⟨c12_3, hc12_3, hF⟩ := ob_some hF
      refine en_last (by decide +kernel : u_at kl_262 19 = some (.lastore, [])) hW ha0 rfl (by decide) hc12_3 (fun h hW => ?_)
      have hW : HW (mkw c0 c1 c2 c3 c4 c5 c6 c7 c8 c9 c10 c11 c12_3 c13) d h := hW
      refine en_segs [(20, .iinc 1 1, []), (23, .goto (-21), [2])] (by decide +kernel) (y := (2, [some (.ref a0), some (.int (x1 + 1)), none, none], [], h)) rfl ?_
      exact (ih _ _ _ _ _ _ hF).1 _ rfl rfl rfl rfl  _ hW _ hQ
  · intro x1 e1 e2 e3 e4 h hW QQ hQ
    subst e1 e2 e3 e4
    refine en_segs [(28, .iload_n 1, []), (29, .ldc 51, [46656])] (by decide +kernel) (y := (31, [some (.ref a0), some (.int x1), none, none], [.int 46656, .int x1], h)) rfl ?_
    refine en_ic_ge (by decide +kernel : u_at kl_262 31 = some (.if_icmp .ge 104, [135])) (fun b4 => ?_) (fun b4 => ?_)
    · replace hF := i_pos b4 hF
      refine en_segs [(135, .iconst 0, []), (136, .istore_n 1, [])] (by decide +kernel) (y := (137, [some (.ref a0), some (.int 0), none, none], [], h)) rfl ?_
      exact (ih _ _ _ _ _ _ hF).2.2.2.2 _ rfl rfl rfl rfl  _ hW _ hQ
    · replace hF := i_neg b4 hF
      refine en_segs [(34, .aload_n 0, [])] (by decide +kernel) (y := (35, [some (.ref a0), some (.int x1), none, none], [.ref a0], h)) rfl ?_
      refine en_get (by decide +kernel : u_at kl_262 35 = some (.getfield 52, [12, 26])) hW ha0 (by decide) rfl ?_
      refine en_segs [(38, .iload_n 1, [])] (by decide +kernel) (y := (39, [some (.ref a0), some (.int x1), none, none], [.int x1, .ref (aP d 12 26 a0)], h)) rfl ?_
      obtain ⟨v5, hv5, hF⟩ := ob_some hF
      refine en_lald (by decide +kernel : u_at kl_262 39 = some (.laload, [])) hW ha0 rfl (by decide) hv5 ?_
      refine en_segs [(40, .lconst 0, []), (41, .lcmp, [])] (by decide +kernel) (y := (42, [some (.ref a0), some (.int x1), none, none], [.int (lg_cmp v5 0)], h)) rfl ?_
      refine en_if_ne (by decide +kernel : u_at kl_262 42 = some (.ifCond .ne 6, [48])) (fun b6 => ?_) (fun b6 => ?_)
      · replace hF := i_pos b6 hF
        refine en_segs [(45, .goto 84, [129]), (129, .iinc 1 1, []), (132, .goto (-104), [28])] (by decide +kernel) (y := (28, [some (.ref a0), some (.int (x1 + 1)), none, none], [], h)) rfl ?_
        exact (ih _ _ _ _ _ _ hF).2.1 _ rfl rfl rfl rfl  _ hW _ hQ
      · replace hF := i_neg b6 hF
        refine en_segs [(48, .aload_n 0, []), (49, .iload_n 1, [])] (by decide +kernel) (y := (50, [some (.ref a0), some (.int x1), none, none], [.int x1, .ref a0], h)) rfl ?_
        obtain ⟨r7, hr7, hF⟩ := ob_some hF
        refine en_vv (r := []) (by decide +kernel : u_at kl_262 50 = some (.invokevirtual 434, [255, 1, 12])) hW ha0 rfl rfl (Nat.le_of_ble_eq_true rfl) (e_255 (D := D) (by omega) hW ha0 hr7) (fun h hW => ?_)
        have hW : HW (mkw c0 c1 c2 c3 c4 c5 c6 c7 c8 c9 c10 c11 r7 c13) d h := hW
        refine en_segs [(53, .iconst 0, []), (54, .istore_n 2, [])] (by decide +kernel) (y := (55, [some (.ref a0), some (.int x1), some (.int 0), none], [], h)) rfl ?_
        exact (ih _ _ _ _ _ _ hF).2.2.1 _ _ rfl rfl rfl rfl  _ hW _ hQ
  · intro x1 x2 e1 e2 e3 e4 h hW QQ hQ
    subst e1 e2 e3 e4
    refine en_segs [(55, .iload_n 2, []), (56, .aload_n 0, [])] (by decide +kernel) (y := (57, [some (.ref a0), some (.int x1), some (.int x2), none], [.ref a0, .int x2], h)) rfl ?_
    refine en_get (by decide +kernel : u_at kl_262 57 = some (.getfield 39, [12, 20])) hW ha0 (by decide) rfl ?_
    refine en_segs [(60, .iconst 2, [])] (by decide +kernel) (y := (61, [some (.ref a0), some (.int x1), some (.int x2), none], [.int 2, .ref (aP d 12 20 a0), .int x2], h)) rfl ?_
    obtain ⟨v11, hv11, hF⟩ := ob_some hF
    refine en_iald (by decide +kernel : u_at kl_262 61 = some (.iaload, [])) hW ha0 rfl (by decide) hv11 ?_
    refine en_ic_ge (by decide +kernel : u_at kl_262 62 = some (.if_icmp .ge 67, [129])) (fun b12 => ?_) (fun b12 => ?_)
    · replace hF := i_pos b12 hF
      refine en_segs [(129, .iinc 1 1, []), (132, .goto (-104), [28])] (by decide +kernel) (y := (28, [some (.ref a0), some (.int (x1 + 1)), some (.int x2), none], [], h)) rfl ?_
      refine en_fg (fg_k (fg_k (fg_d (fg_k fg_0)))) ?_
      exact (ih _ _ _ _ _ _ hF).2.1 _ rfl rfl rfl rfl  _ hW _ hQ
    · replace hF := i_neg b12 hF
      refine en_segs [(65, .iconst 0, []), (66, .istore_n 3, [])] (by decide +kernel) (y := (67, [some (.ref a0), some (.int x1), some (.int x2), some (.int 0)], [], h)) rfl ?_
      exact (ih _ _ _ _ _ _ hF).2.2.2.1 _ _ _ rfl rfl rfl rfl  _ hW _ hQ
  · intro x1 x2 x3 e1 e2 e3 e4 h hW QQ hQ
    subst e1 e2 e3 e4
    refine en_segs [(67, .iload_n 3, []), (68, .aload_n 0, [])] (by decide +kernel) (y := (69, [some (.ref a0), some (.int x1), some (.int x2), some (.int x3)], [.ref a0, .int x3], h)) rfl ?_
    refine en_get (by decide +kernel : u_at kl_262 69 = some (.getfield 39, [12, 20])) hW ha0 (by decide) rfl ?_
    refine en_segs [(72, .iconst 0, [])] (by decide +kernel) (y := (73, [some (.ref a0), some (.int x1), some (.int x2), some (.int x3)], [.int 0, .ref (aP d 12 20 a0), .int x3], h)) rfl ?_
    obtain ⟨v13, hv13, hF⟩ := ob_some hF
    refine en_iald (by decide +kernel : u_at kl_262 73 = some (.iaload, [])) hW ha0 rfl (by decide) hv13 ?_
    refine en_ic_ge (by decide +kernel : u_at kl_262 74 = some (.if_icmp .ge 49, [123])) (fun b14 => ?_) (fun b14 => ?_)
    · replace hF := i_pos b14 hF
      refine en_segs [(123, .iinc 2 1, []), (126, .goto (-71), [55])] (by decide +kernel) (y := (55, [some (.ref a0), some (.int x1), some (.int (x2 + 1)), some (.int x3)], [], h)) rfl ?_
      refine en_fg (fg_k (fg_k (fg_k (fg_d fg_0)))) ?_
      exact (ih _ _ _ _ _ _ hF).2.2.1 _ _ rfl rfl rfl rfl  _ hW _ hQ
    · replace hF := i_neg b14 hF
      refine en_segs [(77, .aload_n 0, []), (78, .iload_n 2, []), (79, .iload_n 3, [])] (by decide +kernel) (y := (80, [some (.ref a0), some (.int x1), some (.int x2), some (.int x3)], [.int x3, .int x2, .ref a0], h)) rfl ?_
      obtain ⟨r15, hr15, hF⟩ := ob_some hF
      refine en_vi (r := []) (by decide +kernel : u_at kl_262 80 = some (.invokevirtual 443, [260, 2, 12])) hW ha0 rfl rfl (Nat.le_of_ble_eq_true rfl) (e_260 (D := D) (by omega) hW ha0 hr15) (fun h' q => ?_)
      subst q
      obtain ⟨t16, hX, hK⟩ := ob_some hF
      have j17 : ∀ h : UH, HW (mkw c0 c1 c2 c3 c4 c5 c6 c7 c8 c9 c10 c11 t16 c13) d h → Ends (EX D) (u_at kl_262) (117, [some (.ref a0), some (.int x1), some (.int x2), some (.int x3)], [], h) QQ := by
        intro h hW
        have hF := hK
        refine en_segs [(117, .iinc 3 1, []), (120, .goto (-53), [67])] (by decide +kernel) (y := (67, [some (.ref a0), some (.int x1), some (.int x2), some (.int (x3 + 1))], [], h)) rfl ?_
        exact (ih _ _ _ _ _ _ hF).2.2.2.1 _ _ _ rfl rfl rfl rfl  _ hW _ hQ
      have hF := hX
      refine en_if_eq (by decide +kernel : u_at kl_262 83 = some (.ifCond .eq 34, [117])) (fun b18 => ?_) (fun b18 => ?_)
      · replace hF := i_pos b18 hF
        obtain rfl := Option.some.inj hF
        exact j17 _ hW
      · replace hF := i_neg b18 hF
        refine en_segs [(86, .aload_n 0, [])] (by decide +kernel) (y := (87, [some (.ref a0), some (.int x1), some (.int x2), some (.int x3)], [.ref a0], h)) rfl ?_
        refine en_get (by decide +kernel : u_at kl_262 87 = some (.getfield 55, [12, 27])) hW ha0 (by decide) rfl ?_
        refine en_segs [(90, .iload_n 1, []), (91, .aload_n 0, [])] (by decide +kernel) (y := (92, [some (.ref a0), some (.int x1), some (.int x2), some (.int x3)], [.ref a0, .int x1, .ref (aP d 12 27 a0)], h)) rfl ?_
        refine en_get (by decide +kernel : u_at kl_262 92 = some (.getfield 48, [12, 25])) hW ha0 (by decide) rfl ?_
        refine en_segs [(95, .iload_n 2, [])] (by decide +kernel) (y := (96, [some (.ref a0), some (.int x1), some (.int x2), some (.int x3)], [.int x2, .ref (aP d 12 25 a0), .int x1, .ref (aP d 12 27 a0)], h)) rfl ?_
        obtain ⟨v19, hv19, hF⟩ := ob_some hF
        refine en_iald (by decide +kernel : u_at kl_262 96 = some (.iaload, [])) hW ha0 rfl (by decide) hv19 ?_
        refine en_segs [(97, .iload_n 3, []), (98, .aload_n 0, [])] (by decide +kernel) (y := (99, [some (.ref a0), some (.int x1), some (.int x2), some (.int x3)], [.ref a0, .int x3, .int v19, .int x1, .ref (aP d 12 27 a0)], h)) rfl ?_
        refine en_get (by decide +kernel : u_at kl_262 99 = some (.getfield 45, [12, 24])) hW ha0 (by decide) rfl ?_
        refine en_segs [(102, .iload_n 2, [])] (by decide +kernel) (y := (103, [some (.ref a0), some (.int x1), some (.int x2), some (.int x3)], [.int x2, .ref (aP d 12 24 a0), .int x3, .int v19, .int x1, .ref (aP d 12 27 a0)], h)) rfl ?_
        obtain ⟨v20, hv20, hF⟩ := ob_some hF
        refine en_iald (by decide +kernel : u_at kl_262 103 = some (.iaload, [])) hW ha0 rfl (by decide) hv20 ?_
        refine en_segs [(104, .isub, []), (105, .imul, []), (106, .iadd, []), (107, .dup2, [])] (by decide +kernel) (y := (108, [some (.ref a0), some (.int x1), some (.int x2), some (.int x3)], [.int (x1 + (v19 * (x3 - v20))), .ref (aP d 12 27 a0), .int (x1 + (v19 * (x3 - v20))), .ref (aP d 12 27 a0)], h)) rfl ?_
        obtain ⟨v21, hv21, hF⟩ := ob_some hF
        refine en_lald (by decide +kernel : u_at kl_262 108 = some (.laload, [])) hW ha0 rfl (by decide) hv21 ?_
        refine en_segs [(109, .aload_n 0, [])] (by decide +kernel) (y := (110, [some (.ref a0), some (.int x1), some (.int x2), some (.int x3)], [.ref a0, .long v21, .int (x1 + (v19 * (x3 - v20))), .ref (aP d 12 27 a0)], h)) rfl ?_
        refine en_get (by decide +kernel : u_at kl_262 110 = some (.getfield 52, [12, 26])) hW ha0 (by decide) rfl ?_
        refine en_segs [(113, .iload_n 1, [])] (by decide +kernel) (y := (114, [some (.ref a0), some (.int x1), some (.int x2), some (.int x3)], [.int x1, .ref (aP d 12 26 a0), .long v21, .int (x1 + (v19 * (x3 - v20))), .ref (aP d 12 27 a0)], h)) rfl ?_
        obtain ⟨v22, hv22, hF⟩ := ob_some hF
        refine en_lald (by decide +kernel : u_at kl_262 114 = some (.laload, [])) hW ha0 rfl (by decide) hv22 ?_
        refine en_segs [(115, .ladd, [])] (by decide +kernel) (y := (116, [some (.ref a0), some (.int x1), some (.int x2), some (.int x3)], [.long (v21 + v22), .int (x1 + (v19 * (x3 - v20))), .ref (aP d 12 27 a0)], h)) rfl ?_
        obtain ⟨c12_23, hc12_23, hF⟩ := ob_some hF
        refine en_last (by decide +kernel : u_at kl_262 116 = some (.lastore, [])) hW ha0 rfl (by decide) hc12_23 (fun h hW => ?_)
        have hW : HW (mkw c0 c1 c2 c3 c4 c5 c6 c7 c8 c9 c10 c11 c12_23 c13) d h := hW
        obtain rfl := Option.some.inj hF
        exact j17 _ hW
  · intro x1 e1 e2 e3 e4 h hW QQ hQ
    subst e1 e2 e3 e4
    refine en_segs [(137, .iload_n 1, []), (138, .ldc 51, [46656])] (by decide +kernel) (y := (140, [some (.ref a0), some (.int x1), none, none], [.int 46656, .int x1], h)) rfl ?_
    refine en_ic_ge (by decide +kernel : u_at kl_262 140 = some (.if_icmp .ge 21, [161])) (fun b8 => ?_) (fun b8 => ?_)
    · replace hF := i_pos b8 hF
      obtain rfl := Option.some.inj hF
      exact en_ret (by decide +kernel : u_at kl_262 161 = some (.return_, [])) rfl (hQ _ hW)
    · replace hF := i_neg b8 hF
      refine en_segs [(143, .aload_n 0, [])] (by decide +kernel) (y := (144, [some (.ref a0), some (.int x1), none, none], [.ref a0], h)) rfl ?_
      refine en_get (by decide +kernel : u_at kl_262 144 = some (.getfield 52, [12, 26])) hW ha0 (by decide) rfl ?_
      refine en_segs [(147, .iload_n 1, []), (148, .aload_n 0, [])] (by decide +kernel) (y := (149, [some (.ref a0), some (.int x1), none, none], [.ref a0, .int x1, .ref (aP d 12 26 a0)], h)) rfl ?_
      refine en_get (by decide +kernel : u_at kl_262 149 = some (.getfield 55, [12, 27])) hW ha0 (by decide) rfl ?_
      refine en_segs [(152, .iload_n 1, [])] (by decide +kernel) (y := (153, [some (.ref a0), some (.int x1), none, none], [.int x1, .ref (aP d 12 27 a0), .int x1, .ref (aP d 12 26 a0)], h)) rfl ?_
      obtain ⟨v9, hv9, hF⟩ := ob_some hF
      refine en_lald (by decide +kernel : u_at kl_262 153 = some (.laload, [])) hW ha0 rfl (by decide) hv9 ?_
      obtain ⟨c12_10, hc12_10, hF⟩ := ob_some hF
      refine en_last (by decide +kernel : u_at kl_262 154 = some (.lastore, [])) hW ha0 rfl (by decide) hc12_10 (fun h hW => ?_)
      have hW : HW (mkw c0 c1 c2 c3 c4 c5 c6 c7 c8 c9 c10 c11 c12_10 c13) d h := hW
      refine en_segs [(155, .iinc 1 1, []), (158, .goto (-21), [137])] (by decide +kernel) (y := (137, [some (.ref a0), some (.int (x1 + 1)), none, none], [], h)) rfl ?_
      exact (ih _ _ _ _ _ _ hF).2.2.2.2 _ rfl rfl rfl rfl  _ hW _ hQ
def F_262 (c12 : Cl) (a0 : Nat) : Option Cl :=
  G_262 a0 0 [0] [] [] c12
set_option maxRecDepth 100000 in
set_option maxHeartbeats 4000000 in
/-- HeadCountsModel.movesOn -/
theorem e_262 {D : Nat} {c0 c1 c2 c3 c4 c5 c6 c7 c8 c9 c10 c11 c12 c13 : Cl} {d : Ad} {h : UH} {a0 : Nat} {r : Cl} (hD : 5 ≤ D) (hW : HW (mkw c0 c1 c2 c3 c4 c5 c6 c7 c8 c9 c10 c11 c12 c13) d h) (ha0 : aK d a0 = (0, 12, 0)) (hF : F_262 c12 a0 = some r) : ∃ q, EX D 262 [.ref a0] h q ∧ q.1 = none ∧ HW (mkw c0 c1 c2 c3 c4 c5 c6 c7 c8 c9 c10 c11 r c13) d q.2 := by
  obtain ⟨D, rfl⟩ : ∃ E, D = E + 1 := ⟨D - 1, by omega⟩
  unfold F_262 at hF
  refine ex_in (kl := kl_262) (nL := 4) rfl (by decide +kernel) (Nat.le_of_ble_eq_true rfl) ?_
  obtain ⟨QQ, hQQ⟩ : ∃ QQ : UR → Prop, QQ = (fun q : UR => q.1 = none ∧ HW (mkw c0 c1 c2 c3 c4 c5 c6 c7 c8 c9 c10 c11 r c13) d q.2) := ⟨_, rfl⟩
  rw [← hQQ]
  have hQ : ∀ h' : UH, HW (mkw c0 c1 c2 c3 c4 c5 c6 c7 c8 c9 c10 c11 r c13) d h' → QQ (none, h') := fun h' p => by rw [hQQ]; exact ⟨rfl, p⟩
  clear hQQ
  show Ends (EX D) (u_at kl_262) (0, [some (.ref a0), none, none, none], [], h) QQ
  refine en_segs [(0, .iconst 0, []), (1, .istore_n 1, [])] (by decide +kernel) (y := (2, [some (.ref a0), some (.int 0), none, none], [], h)) rfl ?_
  exact (g_262 (D := D) hD ha0 _ _ _ _ _ _ hF).1 _ rfl rfl rfl rfl  _ hW _ hQ
def G_263 (a0 : Nat) (lab : Nat) (xs : List Int32) (ys : List Int64) (zs : List Nat) (c12 : Cl) : Option (Int64 × Cl) := match lab, xs, ys, zs with
  | 0, [x1, x2, x3], [], [] =>
    if x1 ≤ x3 then
    G_263 a0 1 [x1, x2, 0] [] [] c12
    else
    ald (cA c12 20 a0) 221 (184 + (3 * x3)) >>= fun v2 =>
    ((if v2 ≤ x2 then
    some x2
    else
    ald (cA c12 20 a0) 221 (184 + (3 * x3)) >>= fun v6 =>
    some v6) : Option (Int32)) >>= fun (t3 : Int32) =>
    G_263 a0 0 [x1, t3, x3 + 1] [] [] c12
  | 1, [x1, x2, x3], [], [] =>
    if 46656 ≤ x3 then
    F_256 c12 a0 >>= fun r8 =>
    stl c12 26 a0 46656 r8 1 >>= fun c12_9 =>
    G_263 a0 2 [x1, x2, 0] [] [] c12_9
    else
    stl c12 26 a0 46656 x3 0 >>= fun c12_10 =>
    G_263 a0 1 [x1, x2, x3 + 1] [] [] c12_10
  | 2, [x1, x2, x3], [], [] =>
    if x2 < x3 then
    G_263 a0 4 [0] [0] [] c12
    else
    ((if x3 ≤ 0 then
    some c12
    else
    F_262 c12 a0 >>= fun r15 =>
    some r15) : Option (Cl)) >>= fun (t12 : Cl) =>
    G_263 a0 3 [x1, x2, x3, 0] [] [] t12
  | 3, [x1, x2, x3, x4], [], [] =>
    if 46656 ≤ x4 then
    G_263 a0 2 [x1, x2, x3 + 1] [] [] c12
    else
    ldl (cB c12 26 a0) 46656 x4 >>= fun v19 =>
    ((if (lg_cmp v19 0) = 0 then
    some c12
    else
    F_255 c12 a0 x4 >>= fun r23 =>
    F_261 r23 a0 x3 x1 >>= fun r24 =>
    if r24 = 0 then
    stl r23 26 a0 46656 x4 0 >>= fun c12_26 =>
    some c12_26
    else
    some r23) : Option (Cl)) >>= fun (t20 : Cl) =>
    G_263 a0 3 [x1, x2, x3, x4 + 1] [] [] t20
  | 4, [x5], [y3], [] =>
    if 46656 ≤ x5 then
    some (y3, c12)
    else
    ldl (cB c12 26 a0) 46656 x5 >>= fun v17 =>
    G_263 a0 4 [x5 + 1] [y3 + v17] [] c12
  | _, _, _, _ => none
partial_fixpoint
set_option maxRecDepth 100000 in
set_option maxHeartbeats 4000000 in
theorem g_263 {D : Nat} (hD : 6 ≤ D + 1) {c0 c1 c2 c3 c4 c5 c6 c7 c8 c9 c10 c11 c13 : Cl} {d : Ad} {a0 : Nat} (ha0 : aK d a0 = (0, 12, 0)) : ∀ (lab : Nat) (xs : List Int32) (ys : List Int64) (zs : List Nat) (c12 : Cl) (r : (Int64 × Cl)), G_263 a0 lab xs ys zs c12 = some r →
    (∀ (x1 : Int32) (x2 : Int32) (x3 : Int32), lab = 0 → xs = [x1, x2, x3] → ys = [] → zs = [] → ∀ h : UH, HW (mkw c0 c1 c2 c3 c4 c5 c6 c7 c8 c9 c10 c11 c12 c13) d h → ∀ QQ : UR → Prop, (∀ h' : UH, HW (mkw c0 c1 c2 c3 c4 c5 c6 c7 c8 c9 c10 c11 r.2 c13) d h' → QQ (some (.long r.1), h')) → Ends (EX D) (u_at kl_263) (4, [some (.ref a0), some (.int x1), some (.int x2), some (.int x3), none, none], [], h) QQ) ∧
    (∀ (x1 : Int32) (x2 : Int32) (x3 : Int32), lab = 1 → xs = [x1, x2, x3] → ys = [] → zs = [] → ∀ h : UH, HW (mkw c0 c1 c2 c3 c4 c5 c6 c7 c8 c9 c10 c11 c12 c13) d h → ∀ QQ : UR → Prop, (∀ h' : UH, HW (mkw c0 c1 c2 c3 c4 c5 c6 c7 c8 c9 c10 c11 r.2 c13) d h' → QQ (some (.long r.1), h')) → Ends (EX D) (u_at kl_263) (50, [some (.ref a0), some (.int x1), some (.int x2), some (.int x3), none, none], [], h) QQ) ∧
    (∀ (x1 : Int32) (x2 : Int32) (x3 : Int32), lab = 2 → xs = [x1, x2, x3] → ys = [] → zs = [] → ∀ h : UH, HW (mkw c0 c1 c2 c3 c4 c5 c6 c7 c8 c9 c10 c11 c12 c13) d h → ∀ QQ : UR → Prop, (∀ h' : UH, HW (mkw c0 c1 c2 c3 c4 c5 c6 c7 c8 c9 c10 c11 r.2 c13) d h' → QQ (some (.long r.1), h')) → Ends (EX D) (u_at kl_263) (81, [some (.ref a0), some (.int x1), some (.int x2), some (.int x3), none, none], [], h) QQ) ∧
    (∀ (x1 : Int32) (x2 : Int32) (x3 : Int32) (x4 : Int32), lab = 3 → xs = [x1, x2, x3, x4] → ys = [] → zs = [] → ∀ h : UH, HW (mkw c0 c1 c2 c3 c4 c5 c6 c7 c8 c9 c10 c11 c12 c13) d h → ∀ QQ : UR → Prop, (∀ h' : UH, HW (mkw c0 c1 c2 c3 c4 c5 c6 c7 c8 c9 c10 c11 r.2 c13) d h' → QQ (some (.long r.1), h')) → Ends (EX D) (u_at kl_263) (97, [some (.ref a0), some (.int x1), some (.int x2), some (.int x3), some (.int x4), none], [], h) QQ) ∧
    (∀ (x5 : Int32) (y3 : Int64), lab = 4 → xs = [x5] → ys = [y3] → zs = [] → ∀ h : UH, HW (mkw c0 c1 c2 c3 c4 c5 c6 c7 c8 c9 c10 c11 c12 c13) d h → ∀ QQ : UR → Prop, (∀ h' : UH, HW (mkw c0 c1 c2 c3 c4 c5 c6 c7 c8 c9 c10 c11 r.2 c13) d h' → QQ (some (.long r.1), h')) → Ends (EX D) (u_at kl_263) (159, [some (.ref a0), none, none, some (.long y3), none, some (.int x5)], [], h) QQ) := by
  refine G_263.partial_correctness _ (motive := fun lab xs ys zs c12 r =>
    (∀ (x1 : Int32) (x2 : Int32) (x3 : Int32), lab = 0 → xs = [x1, x2, x3] → ys = [] → zs = [] → ∀ h : UH, HW (mkw c0 c1 c2 c3 c4 c5 c6 c7 c8 c9 c10 c11 c12 c13) d h → ∀ QQ : UR → Prop, (∀ h' : UH, HW (mkw c0 c1 c2 c3 c4 c5 c6 c7 c8 c9 c10 c11 r.2 c13) d h' → QQ (some (.long r.1), h')) → Ends (EX D) (u_at kl_263) (4, [some (.ref a0), some (.int x1), some (.int x2), some (.int x3), none, none], [], h) QQ) ∧
    (∀ (x1 : Int32) (x2 : Int32) (x3 : Int32), lab = 1 → xs = [x1, x2, x3] → ys = [] → zs = [] → ∀ h : UH, HW (mkw c0 c1 c2 c3 c4 c5 c6 c7 c8 c9 c10 c11 c12 c13) d h → ∀ QQ : UR → Prop, (∀ h' : UH, HW (mkw c0 c1 c2 c3 c4 c5 c6 c7 c8 c9 c10 c11 r.2 c13) d h' → QQ (some (.long r.1), h')) → Ends (EX D) (u_at kl_263) (50, [some (.ref a0), some (.int x1), some (.int x2), some (.int x3), none, none], [], h) QQ) ∧
    (∀ (x1 : Int32) (x2 : Int32) (x3 : Int32), lab = 2 → xs = [x1, x2, x3] → ys = [] → zs = [] → ∀ h : UH, HW (mkw c0 c1 c2 c3 c4 c5 c6 c7 c8 c9 c10 c11 c12 c13) d h → ∀ QQ : UR → Prop, (∀ h' : UH, HW (mkw c0 c1 c2 c3 c4 c5 c6 c7 c8 c9 c10 c11 r.2 c13) d h' → QQ (some (.long r.1), h')) → Ends (EX D) (u_at kl_263) (81, [some (.ref a0), some (.int x1), some (.int x2), some (.int x3), none, none], [], h) QQ) ∧
    (∀ (x1 : Int32) (x2 : Int32) (x3 : Int32) (x4 : Int32), lab = 3 → xs = [x1, x2, x3, x4] → ys = [] → zs = [] → ∀ h : UH, HW (mkw c0 c1 c2 c3 c4 c5 c6 c7 c8 c9 c10 c11 c12 c13) d h → ∀ QQ : UR → Prop, (∀ h' : UH, HW (mkw c0 c1 c2 c3 c4 c5 c6 c7 c8 c9 c10 c11 r.2 c13) d h' → QQ (some (.long r.1), h')) → Ends (EX D) (u_at kl_263) (97, [some (.ref a0), some (.int x1), some (.int x2), some (.int x3), some (.int x4), none], [], h) QQ) ∧
    (∀ (x5 : Int32) (y3 : Int64), lab = 4 → xs = [x5] → ys = [y3] → zs = [] → ∀ h : UH, HW (mkw c0 c1 c2 c3 c4 c5 c6 c7 c8 c9 c10 c11 c12 c13) d h → ∀ QQ : UR → Prop, (∀ h' : UH, HW (mkw c0 c1 c2 c3 c4 c5 c6 c7 c8 c9 c10 c11 r.2 c13) d h' → QQ (some (.long r.1), h')) → Ends (EX D) (u_at kl_263) (159, [some (.ref a0), none, none, some (.long y3), none, some (.int x5)], [], h) QQ)) ?_
  intro G ih lab xs ys zs c12 r hF
  refine ⟨?_, ?_, ?_, ?_, ?_⟩
  · intro x1 x2 x3 e1 e2 e3 e4 h hW QQ hQ
    subst e1 e2 e3 e4
    refine en_segs [(4, .iload_n 3, []), (5, .iload_n 1, [])] (by decide +kernel) (y := (6, [some (.ref a0), some (.int x1), some (.int x2), some (.int x3), none, none], [.int x1, .int x3], h)) rfl ?_
    refine en_ic_ge (by decide +kernel : u_at kl_263 6 = some (.if_icmp .ge 42, [48])) (fun b1 => ?_) (fun b1 => ?_)
    · replace hF := i_pos b1 hF
      refine en_segs [(48, .iconst 0, []), (49, .istore_n 3, [])] (by decide +kernel) (y := (50, [some (.ref a0), some (.int x1), some (.int x2), some (.int 0), none, none], [], h)) rfl ?_
      exact (ih _ _ _ _ _ _ hF).2.1 _ _ _ rfl rfl rfl rfl  _ hW _ hQ
    · replace hF := i_neg b1 hF
      refine en_segs [(9, .aload_n 0, [])] (by decide +kernel) (y := (10, [some (.ref a0), some (.int x1), some (.int x2), some (.int x3), none, none], [.ref a0], h)) rfl ?_
      refine en_get (by decide +kernel : u_at kl_263 10 = some (.getfield 39, [12, 20])) hW ha0 (by decide) rfl ?_
      refine en_segs [(13, .sipush 184, []), (16, .iconst 3, []), (17, .iload_n 3, []), (18, .imul, []), (19, .iadd, [])] (by decide +kernel) (y := (20, [some (.ref a0), some (.int x1), some (.int x2), some (.int x3), none, none], [.int (184 + (3 * x3)), .ref (aP d 12 20 a0)], h)) rfl ?_
      obtain ⟨v2, hv2, hF⟩ := ob_some hF
      refine en_iald (by decide +kernel : u_at kl_263 20 = some (.iaload, [])) hW ha0 rfl (by decide) hv2 ?_
      refine en_segs [(21, .iload_n 2, [])] (by decide +kernel) (y := (22, [some (.ref a0), some (.int x1), some (.int x2), some (.int x3), none, none], [.int x2, .int v2], h)) rfl ?_
      obtain ⟨t3, hX, hK⟩ := ob_some hF
      have j4 : ∀ h : UH, HW (mkw c0 c1 c2 c3 c4 c5 c6 c7 c8 c9 c10 c11 c12 c13) d h → Ends (EX D) (u_at kl_263) (41, [some (.ref a0), some (.int x1), some (.int x2), some (.int x3), none, none], [.int t3], h) QQ := by
        intro h hW
        have hF := hK
        refine en_segs [(41, .istore_n 2, []), (42, .iinc 3 1, []), (45, .goto (-41), [4])] (by decide +kernel) (y := (4, [some (.ref a0), some (.int x1), some (.int t3), some (.int (x3 + 1)), none, none], [], h)) rfl ?_
        exact (ih _ _ _ _ _ _ hF).1 _ _ _ rfl rfl rfl rfl  _ hW _ hQ
      have hF := hX
      refine en_ic_le (by decide +kernel : u_at kl_263 22 = some (.if_icmp .le 18, [40])) (fun b5 => ?_) (fun b5 => ?_)
      · replace hF := i_pos b5 hF
        refine en_segs [(40, .iload_n 2, [])] (by decide +kernel) (y := (41, [some (.ref a0), some (.int x1), some (.int x2), some (.int x3), none, none], [.int x2], h)) rfl ?_
        obtain rfl := Option.some.inj hF
        exact j4 _ hW
      · replace hF := i_neg b5 hF
        refine en_segs [(25, .aload_n 0, [])] (by decide +kernel) (y := (26, [some (.ref a0), some (.int x1), some (.int x2), some (.int x3), none, none], [.ref a0], h)) rfl ?_
        refine en_get (by decide +kernel : u_at kl_263 26 = some (.getfield 39, [12, 20])) hW ha0 (by decide) rfl ?_
        refine en_segs [(29, .sipush 184, []), (32, .iconst 3, []), (33, .iload_n 3, []), (34, .imul, []), (35, .iadd, [])] (by decide +kernel) (y := (36, [some (.ref a0), some (.int x1), some (.int x2), some (.int x3), none, none], [.int (184 + (3 * x3)), .ref (aP d 12 20 a0)], h)) rfl ?_
        obtain ⟨v6, hv6, hF⟩ := ob_some hF
        refine en_iald (by decide +kernel : u_at kl_263 36 = some (.iaload, [])) hW ha0 rfl (by decide) hv6 ?_
        refine en_segs [(37, .goto 4, [41])] (by decide +kernel) (y := (41, [some (.ref a0), some (.int x1), some (.int x2), some (.int x3), none, none], [.int v6], h)) rfl ?_
        obtain rfl := Option.some.inj hF
        exact j4 _ hW
  · intro x1 x2 x3 e1 e2 e3 e4 h hW QQ hQ
    subst e1 e2 e3 e4
    refine en_segs [(50, .iload_n 3, []), (51, .ldc 51, [46656])] (by decide +kernel) (y := (53, [some (.ref a0), some (.int x1), some (.int x2), some (.int x3), none, none], [.int 46656, .int x3], h)) rfl ?_
    refine en_ic_ge (by decide +kernel : u_at kl_263 53 = some (.if_icmp .ge 16, [69])) (fun b7 => ?_) (fun b7 => ?_)
    · replace hF := i_pos b7 hF
      refine en_segs [(69, .aload_n 0, [])] (by decide +kernel) (y := (70, [some (.ref a0), some (.int x1), some (.int x2), some (.int x3), none, none], [.ref a0], h)) rfl ?_
      refine en_get (by decide +kernel : u_at kl_263 70 = some (.getfield 52, [12, 26])) hW ha0 (by decide) rfl ?_
      refine en_segs [(73, .aload_n 0, [])] (by decide +kernel) (y := (74, [some (.ref a0), some (.int x1), some (.int x2), some (.int x3), none, none], [.ref a0, .ref (aP d 12 26 a0)], h)) rfl ?_
      obtain ⟨r8, hr8, hF⟩ := ob_some hF
      refine en_vi (r := [.ref (aP d 12 26 a0)]) (by decide +kernel : u_at kl_263 74 = some (.invokevirtual 446, [256, 0, 12])) hW ha0 rfl rfl (Nat.le_of_ble_eq_true rfl) (e_256 (D := D) (by omega) hW ha0 hr8) (fun h' q => ?_)
      subst q
      refine en_segs [(77, .lconst 1, [])] (by decide +kernel) (y := (78, [some (.ref a0), some (.int x1), some (.int x2), some (.int x3), none, none], [.long 1, .int r8, .ref (aP d 12 26 a0)], h)) rfl ?_
      obtain ⟨c12_9, hc12_9, hF⟩ := ob_some hF
      refine en_last (by decide +kernel : u_at kl_263 78 = some (.lastore, [])) hW ha0 rfl (by decide) hc12_9 (fun h hW => ?_)
      have hW : HW (mkw c0 c1 c2 c3 c4 c5 c6 c7 c8 c9 c10 c11 c12_9 c13) d h := hW
      refine en_segs [(79, .iconst 0, []), (80, .istore_n 3, [])] (by decide +kernel) (y := (81, [some (.ref a0), some (.int x1), some (.int x2), some (.int 0), none, none], [], h)) rfl ?_
      exact (ih _ _ _ _ _ _ hF).2.2.1 _ _ _ rfl rfl rfl rfl  _ hW _ hQ
    · replace hF := i_neg b7 hF
      refine en_segs [(56, .aload_n 0, [])] (by decide +kernel) (y := (57, [some (.ref a0), some (.int x1), some (.int x2), some (.int x3), none, none], [.ref a0], h)) rfl ?_
      refine en_get (by decide +kernel : u_at kl_263 57 = some (.getfield 52, [12, 26])) hW ha0 (by decide) rfl ?_
      refine en_segs [(60, .iload_n 3, []), (61, .lconst 0, [])] (by decide +kernel) (y := (62, [some (.ref a0), some (.int x1), some (.int x2), some (.int x3), none, none], [.long 0, .int x3, .ref (aP d 12 26 a0)], h)) rfl ?_
      obtain ⟨c12_10, hc12_10, hF⟩ := ob_some hF
      refine en_last (by decide +kernel : u_at kl_263 62 = some (.lastore, [])) hW ha0 rfl (by decide) hc12_10 (fun h hW => ?_)
      have hW : HW (mkw c0 c1 c2 c3 c4 c5 c6 c7 c8 c9 c10 c11 c12_10 c13) d h := hW
      refine en_segs [(63, .iinc 3 1, []), (66, .goto (-16), [50])] (by decide +kernel) (y := (50, [some (.ref a0), some (.int x1), some (.int x2), some (.int (x3 + 1)), none, none], [], h)) rfl ?_
      exact (ih _ _ _ _ _ _ hF).2.1 _ _ _ rfl rfl rfl rfl  _ hW _ hQ
  · intro x1 x2 x3 e1 e2 e3 e4 h hW QQ hQ
    subst e1 e2 e3 e4
    refine en_segs [(81, .iload_n 3, []), (82, .iload_n 2, [])] (by decide +kernel) (y := (83, [some (.ref a0), some (.int x1), some (.int x2), some (.int x3), none, none], [.int x2, .int x3], h)) rfl ?_
    refine en_ic_gt (by decide +kernel : u_at kl_263 83 = some (.if_icmp .gt 71, [154])) (fun b11 => ?_) (fun b11 => ?_)
    · replace hF := i_pos b11 hF
      refine en_segs [(154, .lconst 0, []), (155, .lstore_n 3, []), (156, .iconst 0, []), (157, .istore 5, [])] (by decide +kernel) (y := (159, [some (.ref a0), some (.int x1), some (.int x2), some (.long 0), none, some (.int 0)], [], h)) rfl ?_
      refine en_fg (fg_k (fg_d (fg_d (fg_k (fg_k (fg_k fg_0)))))) ?_
      exact (ih _ _ _ _ _ _ hF).2.2.2.2 _ _ rfl rfl rfl rfl  _ hW _ hQ
    · replace hF := i_neg b11 hF
      refine en_segs [(86, .iload_n 3, [])] (by decide +kernel) (y := (87, [some (.ref a0), some (.int x1), some (.int x2), some (.int x3), none, none], [.int x3], h)) rfl ?_
      obtain ⟨t12, hX, hK⟩ := ob_some hF
      have j13 : ∀ h : UH, HW (mkw c0 c1 c2 c3 c4 c5 c6 c7 c8 c9 c10 c11 t12 c13) d h → Ends (EX D) (u_at kl_263) (94, [some (.ref a0), some (.int x1), some (.int x2), some (.int x3), none, none], [], h) QQ := by
        intro h hW
        have hF := hK
        refine en_segs [(94, .iconst 0, []), (95, .istore 4, [])] (by decide +kernel) (y := (97, [some (.ref a0), some (.int x1), some (.int x2), some (.int x3), some (.int 0), none], [], h)) rfl ?_
        exact (ih _ _ _ _ _ _ hF).2.2.2.1 _ _ _ _ rfl rfl rfl rfl  _ hW _ hQ
      have hF := hX
      refine en_if_le (by decide +kernel : u_at kl_263 87 = some (.ifCond .le 7, [94])) (fun b14 => ?_) (fun b14 => ?_)
      · replace hF := i_pos b14 hF
        obtain rfl := Option.some.inj hF
        exact j13 _ hW
      · replace hF := i_neg b14 hF
        refine en_segs [(90, .aload_n 0, [])] (by decide +kernel) (y := (91, [some (.ref a0), some (.int x1), some (.int x2), some (.int x3), none, none], [.ref a0], h)) rfl ?_
        obtain ⟨r15, hr15, hF⟩ := ob_some hF
        refine en_vv (r := []) (by decide +kernel : u_at kl_263 91 = some (.invokevirtual 449, [262, 0, 12])) hW ha0 rfl rfl (Nat.le_of_ble_eq_true rfl) (e_262 (D := D) (by omega) hW ha0 hr15) (fun h hW => ?_)
        have hW : HW (mkw c0 c1 c2 c3 c4 c5 c6 c7 c8 c9 c10 c11 r15 c13) d h := hW
        obtain rfl := Option.some.inj hF
        exact j13 _ hW
  · intro x1 x2 x3 x4 e1 e2 e3 e4 h hW QQ hQ
    subst e1 e2 e3 e4
    refine en_segs [(97, .iload 4, []), (99, .ldc 51, [46656])] (by decide +kernel) (y := (101, [some (.ref a0), some (.int x1), some (.int x2), some (.int x3), some (.int x4), none], [.int 46656, .int x4], h)) rfl ?_
    refine en_ic_ge (by decide +kernel : u_at kl_263 101 = some (.if_icmp .ge 47, [148])) (fun b18 => ?_) (fun b18 => ?_)
    · replace hF := i_pos b18 hF
      refine en_segs [(148, .iinc 3 1, []), (151, .goto (-70), [81])] (by decide +kernel) (y := (81, [some (.ref a0), some (.int x1), some (.int x2), some (.int (x3 + 1)), some (.int x4), none], [], h)) rfl ?_
      refine en_fg (fg_k (fg_k (fg_k (fg_k (fg_d (fg_k fg_0)))))) ?_
      exact (ih _ _ _ _ _ _ hF).2.2.1 _ _ _ rfl rfl rfl rfl  _ hW _ hQ
    · replace hF := i_neg b18 hF
      refine en_segs [(104, .aload_n 0, [])] (by decide +kernel) (y := (105, [some (.ref a0), some (.int x1), some (.int x2), some (.int x3), some (.int x4), none], [.ref a0], h)) rfl ?_
      refine en_get (by decide +kernel : u_at kl_263 105 = some (.getfield 52, [12, 26])) hW ha0 (by decide) rfl ?_
      refine en_segs [(108, .iload 4, [])] (by decide +kernel) (y := (110, [some (.ref a0), some (.int x1), some (.int x2), some (.int x3), some (.int x4), none], [.int x4, .ref (aP d 12 26 a0)], h)) rfl ?_
      obtain ⟨v19, hv19, hF⟩ := ob_some hF
      refine en_lald (by decide +kernel : u_at kl_263 110 = some (.laload, [])) hW ha0 rfl (by decide) hv19 ?_
      refine en_segs [(111, .lconst 0, []), (112, .lcmp, [])] (by decide +kernel) (y := (113, [some (.ref a0), some (.int x1), some (.int x2), some (.int x3), some (.int x4), none], [.int (lg_cmp v19 0)], h)) rfl ?_
      obtain ⟨t20, hX, hK⟩ := ob_some hF
      have j21 : ∀ h : UH, HW (mkw c0 c1 c2 c3 c4 c5 c6 c7 c8 c9 c10 c11 t20 c13) d h → Ends (EX D) (u_at kl_263) (142, [some (.ref a0), some (.int x1), some (.int x2), some (.int x3), some (.int x4), none], [], h) QQ := by
        intro h hW
        have hF := hK
        refine en_segs [(142, .iinc 4 1, []), (145, .goto (-48), [97])] (by decide +kernel) (y := (97, [some (.ref a0), some (.int x1), some (.int x2), some (.int x3), some (.int (x4 + 1)), none], [], h)) rfl ?_
        exact (ih _ _ _ _ _ _ hF).2.2.2.1 _ _ _ _ rfl rfl rfl rfl  _ hW _ hQ
      have hF := hX
      refine en_if_ne (by decide +kernel : u_at kl_263 113 = some (.ifCond .ne 6, [119])) (fun b22 => ?_) (fun b22 => ?_)
      · replace hF := i_pos b22 hF
        refine en_segs [(116, .goto 26, [142])] (by decide +kernel) (y := (142, [some (.ref a0), some (.int x1), some (.int x2), some (.int x3), some (.int x4), none], [], h)) rfl ?_
        obtain rfl := Option.some.inj hF
        exact j21 _ hW
      · replace hF := i_neg b22 hF
        refine en_segs [(119, .aload_n 0, []), (120, .iload 4, [])] (by decide +kernel) (y := (122, [some (.ref a0), some (.int x1), some (.int x2), some (.int x3), some (.int x4), none], [.int x4, .ref a0], h)) rfl ?_
        obtain ⟨r23, hr23, hF⟩ := ob_some hF
        refine en_vv (r := []) (by decide +kernel : u_at kl_263 122 = some (.invokevirtual 434, [255, 1, 12])) hW ha0 rfl rfl (Nat.le_of_ble_eq_true rfl) (e_255 (D := D) (by omega) hW ha0 hr23) (fun h hW => ?_)
        have hW : HW (mkw c0 c1 c2 c3 c4 c5 c6 c7 c8 c9 c10 c11 r23 c13) d h := hW
        refine en_segs [(125, .aload_n 0, []), (126, .iload_n 3, []), (127, .iload_n 1, [])] (by decide +kernel) (y := (128, [some (.ref a0), some (.int x1), some (.int x2), some (.int x3), some (.int x4), none], [.int x1, .int x3, .ref a0], h)) rfl ?_
        obtain ⟨r24, hr24, hF⟩ := ob_some hF
        refine en_vi (r := []) (by decide +kernel : u_at kl_263 128 = some (.invokevirtual 452, [261, 2, 12])) hW ha0 rfl rfl (Nat.le_of_ble_eq_true rfl) (e_261 (D := D) (by omega) hW ha0 hr24) (fun h' q => ?_)
        subst q
        refine en_if_ne (by decide +kernel : u_at kl_263 131 = some (.ifCond .ne 11, [142])) (fun b25 => ?_) (fun b25 => ?_)
        · replace hF := i_pos b25 hF
          refine en_segs [(134, .aload_n 0, [])] (by decide +kernel) (y := (135, [some (.ref a0), some (.int x1), some (.int x2), some (.int x3), some (.int x4), none], [.ref a0], h)) rfl ?_
          refine en_get (by decide +kernel : u_at kl_263 135 = some (.getfield 52, [12, 26])) hW ha0 (by decide) rfl ?_
          refine en_segs [(138, .iload 4, []), (140, .lconst 0, [])] (by decide +kernel) (y := (141, [some (.ref a0), some (.int x1), some (.int x2), some (.int x3), some (.int x4), none], [.long 0, .int x4, .ref (aP d 12 26 a0)], h)) rfl ?_
          obtain ⟨c12_26, hc12_26, hF⟩ := ob_some hF
          refine en_last (by decide +kernel : u_at kl_263 141 = some (.lastore, [])) hW ha0 rfl (by decide) hc12_26 (fun h hW => ?_)
          have hW : HW (mkw c0 c1 c2 c3 c4 c5 c6 c7 c8 c9 c10 c11 c12_26 c13) d h := hW
          obtain rfl := Option.some.inj hF
          exact j21 _ hW
        · replace hF := i_neg b25 hF
          obtain rfl := Option.some.inj hF
          exact j21 _ hW
  · intro x5 y3 e1 e2 e3 e4 h hW QQ hQ
    subst e1 e2 e3 e4
    refine en_segs [(159, .iload 5, []), (161, .ldc 51, [46656])] (by decide +kernel) (y := (163, [some (.ref a0), none, none, some (.long y3), none, some (.int x5)], [.int 46656, .int x5], h)) rfl ?_
    refine en_ic_ge (by decide +kernel : u_at kl_263 163 = some (.if_icmp .ge 19, [182])) (fun b16 => ?_) (fun b16 => ?_)
    · replace hF := i_pos b16 hF
      refine en_segs [(182, .lload_n 3, [])] (by decide +kernel) (y := (183, [some (.ref a0), none, none, some (.long y3), none, some (.int x5)], [.long y3], h)) rfl ?_
      obtain rfl := Option.some.inj hF
      exact en_ret (by decide +kernel : u_at kl_263 183 = some (.lreturn, [])) rfl (hQ _ hW)
    · replace hF := i_neg b16 hF
      refine en_segs [(166, .lload_n 3, []), (167, .aload_n 0, [])] (by decide +kernel) (y := (168, [some (.ref a0), none, none, some (.long y3), none, some (.int x5)], [.ref a0, .long y3], h)) rfl ?_
      refine en_get (by decide +kernel : u_at kl_263 168 = some (.getfield 52, [12, 26])) hW ha0 (by decide) rfl ?_
      refine en_segs [(171, .iload 5, [])] (by decide +kernel) (y := (173, [some (.ref a0), none, none, some (.long y3), none, some (.int x5)], [.int x5, .ref (aP d 12 26 a0), .long y3], h)) rfl ?_
      obtain ⟨v17, hv17, hF⟩ := ob_some hF
      refine en_lald (by decide +kernel : u_at kl_263 173 = some (.laload, [])) hW ha0 rfl (by decide) hv17 ?_
      refine en_segs [(174, .ladd, []), (175, .lstore_n 3, []), (176, .iinc 5 1, []), (179, .goto (-20), [159])] (by decide +kernel) (y := (159, [some (.ref a0), none, none, some (.long (y3 + v17)), none, some (.int (x5 + 1))], [], h)) rfl ?_
      exact (ih _ _ _ _ _ _ hF).2.2.2.2 _ _ rfl rfl rfl rfl  _ hW _ hQ
def F_263 (c12 : Cl) (a0 : Nat) (p1 : Int32) : Option (Int64 × Cl) :=
  G_263 a0 0 [p1, 0, 0] [] [] c12
set_option maxRecDepth 100000 in
set_option maxHeartbeats 4000000 in
/-- HeadCountsModel.fitting -/
theorem e_263 {D : Nat} {c0 c1 c2 c3 c4 c5 c6 c7 c8 c9 c10 c11 c12 c13 : Cl} {d : Ad} {h : UH} {a0 : Nat} {p1 : Int32} {r : (Int64 × Cl)} (hD : 6 ≤ D) (hW : HW (mkw c0 c1 c2 c3 c4 c5 c6 c7 c8 c9 c10 c11 c12 c13) d h) (ha0 : aK d a0 = (0, 12, 0)) (hF : F_263 c12 a0 p1 = some r) : ∃ q, EX D 263 [.ref a0, .int p1] h q ∧ q.1 = some (.long r.1) ∧ HW (mkw c0 c1 c2 c3 c4 c5 c6 c7 c8 c9 c10 c11 r.2 c13) d q.2 := by
  obtain ⟨D, rfl⟩ : ∃ E, D = E + 1 := ⟨D - 1, by omega⟩
  unfold F_263 at hF
  refine ex_in (kl := kl_263) (nL := 6) rfl (by decide +kernel) (Nat.le_of_ble_eq_true rfl) ?_
  obtain ⟨QQ, hQQ⟩ : ∃ QQ : UR → Prop, QQ = (fun q : UR => q.1 = some (.long r.1) ∧ HW (mkw c0 c1 c2 c3 c4 c5 c6 c7 c8 c9 c10 c11 r.2 c13) d q.2) := ⟨_, rfl⟩
  rw [← hQQ]
  have hQ : ∀ h' : UH, HW (mkw c0 c1 c2 c3 c4 c5 c6 c7 c8 c9 c10 c11 r.2 c13) d h' → QQ (some (.long r.1), h') := fun h' p => by rw [hQQ]; exact ⟨rfl, p⟩
  clear hQQ
  show Ends (EX D) (u_at kl_263) (0, [some (.ref a0), some (.int p1), none, none, none, none], [], h) QQ
  refine en_segs [(0, .iconst 0, []), (1, .istore_n 2, []), (2, .iconst 0, []), (3, .istore_n 3, [])] (by decide +kernel) (y := (4, [some (.ref a0), some (.int p1), some (.int 0), some (.int 0), none, none], [], h)) rfl ?_
  exact (g_263 (D := D) hD ha0 _ _ _ _ _ _ hF).1 _ _ _ rfl rfl rfl rfl  _ hW _ hQ
def F_264 (c12 : Cl) (a0 : Nat) : Option (Int64 × Cl) :=
  F_218 c12 a0 >>= fun r1 =>
  ((if r1 = 0 then
  some ((-1), c12)
  else
  ald (cA c12 20 a0) 221 220 >>= fun v5 =>
  F_263 c12 a0 v5 >>= fun r6 =>
  some (r6.1, r6.2)) : Option (Int64 × Cl)) >>= fun (t2 : Int64 × Cl) =>
  some (t2.1, t2.2)
set_option maxRecDepth 100000 in
set_option maxHeartbeats 4000000 in
/-- HeadCountsModel.fits -/
theorem e_264 {D : Nat} {c0 c1 c2 c3 c4 c5 c6 c7 c8 c9 c10 c11 c12 c13 : Cl} {d : Ad} {h : UH} {a0 : Nat} {r : (Int64 × Cl)} (hD : 7 ≤ D) (hW : HW (mkw c0 c1 c2 c3 c4 c5 c6 c7 c8 c9 c10 c11 c12 c13) d h) (ha0 : aK d a0 = (0, 12, 0)) (hF : F_264 c12 a0 = some r) : ∃ q, EX D 264 [.ref a0] h q ∧ q.1 = some (.long r.1) ∧ HW (mkw c0 c1 c2 c3 c4 c5 c6 c7 c8 c9 c10 c11 r.2 c13) d q.2 := by
  obtain ⟨D, rfl⟩ : ∃ E, D = E + 1 := ⟨D - 1, by omega⟩
  unfold F_264 at hF
  refine ex_in (kl := kl_264) (nL := 1) rfl (by decide +kernel) (Nat.le_of_ble_eq_true rfl) ?_
  obtain ⟨QQ, hQQ⟩ : ∃ QQ : UR → Prop, QQ = (fun q : UR => q.1 = some (.long r.1) ∧ HW (mkw c0 c1 c2 c3 c4 c5 c6 c7 c8 c9 c10 c11 r.2 c13) d q.2) := ⟨_, rfl⟩
  rw [← hQQ]
  have hQ : ∀ h' : UH, HW (mkw c0 c1 c2 c3 c4 c5 c6 c7 c8 c9 c10 c11 r.2 c13) d h' → QQ (some (.long r.1), h') := fun h' p => by rw [hQQ]; exact ⟨rfl, p⟩
  clear hQQ
  show Ends (EX D) (u_at kl_264) (0, [some (.ref a0)], [], h) QQ
  refine en_segs [(0, .aload_n 0, [])] (by decide +kernel) (y := (1, [some (.ref a0)], [.ref a0], h)) rfl ?_
  obtain ⟨r1, hr1, hF⟩ := ob_some hF
  refine en_vi (r := []) (by decide +kernel : u_at kl_264 1 = some (.invokevirtual 409, [218, 0, 12])) hW ha0 rfl rfl (Nat.le_of_ble_eq_true rfl) (e_218 (D := D) (by omega) hW ha0 hr1) (fun h' q => ?_)
  subst q
  obtain ⟨t2, hX, hK⟩ := ob_some hF
  have j3 : ∀ h : UH, HW (mkw c0 c1 c2 c3 c4 c5 c6 c7 c8 c9 c10 c11 t2.2 c13) d h → Ends (EX D) (u_at kl_264) (25, [some (.ref a0)], [.long t2.1], h) QQ := by
    intro h hW
    have hF := hK
    obtain rfl := Option.some.inj hF
    exact en_ret (by decide +kernel : u_at kl_264 25 = some (.lreturn, [])) rfl (hQ _ hW)
  have hF := hX
  refine en_if_eq (by decide +kernel : u_at kl_264 4 = some (.ifCond .eq 18, [22])) (fun b4 => ?_) (fun b4 => ?_)
  · replace hF := i_pos b4 hF
    refine en_segs [(22, .ldc2_w 459, [18446744073709551615])] (by decide +kernel) (y := (25, [some (.ref a0)], [.long (-1)], h)) rfl ?_
    obtain rfl := Option.some.inj hF
    exact j3 _ hW
  · replace hF := i_neg b4 hF
    refine en_segs [(7, .aload_n 0, []), (8, .aload_n 0, [])] (by decide +kernel) (y := (9, [some (.ref a0)], [.ref a0, .ref a0], h)) rfl ?_
    refine en_get (by decide +kernel : u_at kl_264 9 = some (.getfield 39, [12, 20])) hW ha0 (by decide) rfl ?_
    refine en_segs [(12, .sipush 220, [])] (by decide +kernel) (y := (15, [some (.ref a0)], [.int 220, .ref (aP d 12 20 a0), .ref a0], h)) rfl ?_
    obtain ⟨v5, hv5, hF⟩ := ob_some hF
    refine en_iald (by decide +kernel : u_at kl_264 15 = some (.iaload, [])) hW ha0 rfl (by decide) hv5 ?_
    obtain ⟨r6, hr6, hF⟩ := ob_some hF
    refine en_vl (r := []) (by decide +kernel : u_at kl_264 16 = some (.invokevirtual 455, [263, 1, 12])) hW ha0 rfl rfl (Nat.le_of_ble_eq_true rfl) (e_263 (D := D) (by omega) hW ha0 hr6) (fun h hW => ?_)
    have hW : HW (mkw c0 c1 c2 c3 c4 c5 c6 c7 c8 c9 c10 c11 r6.2 c13) d h := hW
    refine en_segs [(19, .goto 6, [25])] (by decide +kernel) (y := (25, [some (.ref a0)], [.long r6.1], h)) rfl ?_
    obtain rfl := Option.some.inj hF
    exact j3 _ hW
def G_265 (c12 : Cl) (a0 : Nat) (lab : Nat) (xs : List Int32) (ys : List Int64) (zs : List Nat) : Option (Int32 × Cl) := match lab, xs, ys, zs with
  | 0, [x1, x2, x3], [], [] =>
    if 46656 ≤ x3 then
    some (x2, c12)
    else
    ldl (cB c12 26 a0) 46656 x3 >>= fun v8 =>
    ((if (lg_cmp v8 0) ≤ 0 then
    some 0
    else
    ald (cA c12 25 a0) 6 x1 >>= fun v12 =>
    idv x3 v12 >>= fun v13 =>
    irm v13 6 >>= fun v14 =>
    some (1 <<< (v14 &&& 31))) : Option (Int32)) >>= fun (t9 : Int32) =>
    G_265 c12 a0 0 [x1, x2 ||| t9, x3 + 1] [] []
  | _, _, _, _ => none
partial_fixpoint
set_option maxRecDepth 100000 in
set_option maxHeartbeats 4000000 in
theorem g_265 {D : Nat} (hD : 7 ≤ D + 1) {c0 c1 c2 c3 c4 c5 c6 c7 c8 c9 c10 c11 c12 c13 : Cl} {d : Ad} {a0 : Nat} (ha0 : aK d a0 = (0, 12, 0)) : ∀ (lab : Nat) (xs : List Int32) (ys : List Int64) (zs : List Nat) (r : (Int32 × Cl)), G_265 c12 a0 lab xs ys zs = some r →
    (∀ (x1 : Int32) (x2 : Int32) (x3 : Int32), lab = 0 → xs = [x1, x2, x3] → ys = [] → zs = [] → ∀ h : UH, HW (mkw c0 c1 c2 c3 c4 c5 c6 c7 c8 c9 c10 c11 c12 c13) d h → ∀ QQ : UR → Prop, (∀ h' : UH, HW (mkw c0 c1 c2 c3 c4 c5 c6 c7 c8 c9 c10 c11 r.2 c13) d h' → QQ (some (.int r.1), h')) → Ends (EX D) (u_at kl_265) (35, [some (.ref a0), some (.int x1), some (.int x2), some (.int x3)], [], h) QQ) := by
  refine G_265.partial_correctness _ _ (motive := fun lab xs ys zs r =>
    (∀ (x1 : Int32) (x2 : Int32) (x3 : Int32), lab = 0 → xs = [x1, x2, x3] → ys = [] → zs = [] → ∀ h : UH, HW (mkw c0 c1 c2 c3 c4 c5 c6 c7 c8 c9 c10 c11 c12 c13) d h → ∀ QQ : UR → Prop, (∀ h' : UH, HW (mkw c0 c1 c2 c3 c4 c5 c6 c7 c8 c9 c10 c11 r.2 c13) d h' → QQ (some (.int r.1), h')) → Ends (EX D) (u_at kl_265) (35, [some (.ref a0), some (.int x1), some (.int x2), some (.int x3)], [], h) QQ)) ?_
  intro G ih lab xs ys zs r hF
  · intro x1 x2 x3 e1 e2 e3 e4 h hW QQ hQ
    subst e1 e2 e3 e4
    refine en_segs [(35, .iload_n 3, []), (36, .ldc 51, [46656])] (by decide +kernel) (y := (38, [some (.ref a0), some (.int x1), some (.int x2), some (.int x3)], [.int 46656, .int x3], h)) rfl ?_
    refine en_ic_ge (by decide +kernel : u_at kl_265 38 = some (.if_icmp .ge 40, [78])) (fun b7 => ?_) (fun b7 => ?_)
    · replace hF := i_pos b7 hF
      refine en_segs [(78, .iload_n 2, [])] (by decide +kernel) (y := (79, [some (.ref a0), some (.int x1), some (.int x2), some (.int x3)], [.int x2], h)) rfl ?_
      obtain rfl := Option.some.inj hF
      exact en_ret (by decide +kernel : u_at kl_265 79 = some (.ireturn, [0])) rfl (hQ _ hW)
    · replace hF := i_neg b7 hF
      refine en_segs [(41, .iload_n 2, []), (42, .aload_n 0, [])] (by decide +kernel) (y := (43, [some (.ref a0), some (.int x1), some (.int x2), some (.int x3)], [.ref a0, .int x2], h)) rfl ?_
      refine en_get (by decide +kernel : u_at kl_265 43 = some (.getfield 52, [12, 26])) hW ha0 (by decide) rfl ?_
      refine en_segs [(46, .iload_n 3, [])] (by decide +kernel) (y := (47, [some (.ref a0), some (.int x1), some (.int x2), some (.int x3)], [.int x3, .ref (aP d 12 26 a0), .int x2], h)) rfl ?_
      obtain ⟨v8, hv8, hF⟩ := ob_some hF
      refine en_lald (by decide +kernel : u_at kl_265 47 = some (.laload, [])) hW ha0 rfl (by decide) hv8 ?_
      refine en_segs [(48, .lconst 0, []), (49, .lcmp, [])] (by decide +kernel) (y := (50, [some (.ref a0), some (.int x1), some (.int x2), some (.int x3)], [.int (lg_cmp v8 0), .int x2], h)) rfl ?_
      obtain ⟨t9, hX, hK⟩ := ob_some hF
      have j10 : ∀ h : UH, HW (mkw c0 c1 c2 c3 c4 c5 c6 c7 c8 c9 c10 c11 c12 c13) d h → Ends (EX D) (u_at kl_265) (70, [some (.ref a0), some (.int x1), some (.int x2), some (.int x3)], [.int t9, .int x2], h) QQ := by
        intro h hW
        have hF := hK
        refine en_segs [(70, .ior, []), (71, .istore_n 2, []), (72, .iinc 3 1, []), (75, .goto (-40), [35])] (by decide +kernel) (y := (35, [some (.ref a0), some (.int x1), some (.int (x2 ||| t9)), some (.int (x3 + 1))], [], h)) rfl ?_
        exact (ih _ _ _ _ _ hF) _ _ _ rfl rfl rfl rfl  _ hW _ hQ
      have hF := hX
      refine en_if_le (by decide +kernel : u_at kl_265 50 = some (.ifCond .le 19, [69])) (fun b11 => ?_) (fun b11 => ?_)
      · replace hF := i_pos b11 hF
        refine en_segs [(69, .iconst 0, [])] (by decide +kernel) (y := (70, [some (.ref a0), some (.int x1), some (.int x2), some (.int x3)], [.int 0, .int x2], h)) rfl ?_
        obtain rfl := Option.some.inj hF
        exact j10 _ hW
      · replace hF := i_neg b11 hF
        refine en_segs [(53, .iconst 1, []), (54, .iload_n 3, []), (55, .aload_n 0, [])] (by decide +kernel) (y := (56, [some (.ref a0), some (.int x1), some (.int x2), some (.int x3)], [.ref a0, .int x3, .int 1, .int x2], h)) rfl ?_
        refine en_get (by decide +kernel : u_at kl_265 56 = some (.getfield 48, [12, 25])) hW ha0 (by decide) rfl ?_
        refine en_segs [(59, .iload_n 1, [])] (by decide +kernel) (y := (60, [some (.ref a0), some (.int x1), some (.int x2), some (.int x3)], [.int x1, .ref (aP d 12 25 a0), .int x3, .int 1, .int x2], h)) rfl ?_
        obtain ⟨v12, hv12, hF⟩ := ob_some hF
        refine en_iald (by decide +kernel : u_at kl_265 60 = some (.iaload, [])) hW ha0 rfl (by decide) hv12 ?_
        obtain ⟨v13, hv13, hF⟩ := ob_some hF
        refine en_idiv (by decide +kernel : u_at kl_265 61 = some (.idiv, [])) hv13 ?_
        refine en_segs [(62, .bipush 6, [])] (by decide +kernel) (y := (64, [some (.ref a0), some (.int x1), some (.int x2), some (.int x3)], [.int 6, .int v13, .int 1, .int x2], h)) rfl ?_
        obtain ⟨v14, hv14, hF⟩ := ob_some hF
        refine en_irem (by decide +kernel : u_at kl_265 64 = some (.irem, [])) hv14 ?_
        refine en_segs [(65, .ishl, []), (66, .goto 4, [70])] (by decide +kernel) (y := (70, [some (.ref a0), some (.int x1), some (.int x2), some (.int x3)], [.int (1 <<< (v14 &&& 31)), .int x2], h)) rfl ?_
        obtain rfl := Option.some.inj hF
        exact j10 _ hW
def F_265 (c12 : Cl) (a0 : Nat) (p1 : Int32) : Option (Int32 × Cl) :=
  F_221 c12 a0 p1 >>= fun r1 =>
  if r1 = 0 then
  some ((-1), c12)
  else
  F_224 c12 a0 p1 >>= fun r3 =>
  if r3 = 0 then
  some ((-1), c12)
  else
  ald (cA c12 20 a0) 221 220 >>= fun v5 =>
  F_263 c12 a0 v5 >>= fun r6 =>
  G_265 r6.2 a0 0 [p1, 0, 0] [] []
set_option maxRecDepth 100000 in
set_option maxHeartbeats 4000000 in
/-- HeadCountsModel.who -/
theorem e_265 {D : Nat} {c0 c1 c2 c3 c4 c5 c6 c7 c8 c9 c10 c11 c12 c13 : Cl} {d : Ad} {h : UH} {a0 : Nat} {p1 : Int32} {r : (Int32 × Cl)} (hD : 7 ≤ D) (hW : HW (mkw c0 c1 c2 c3 c4 c5 c6 c7 c8 c9 c10 c11 c12 c13) d h) (ha0 : aK d a0 = (0, 12, 0)) (hF : F_265 c12 a0 p1 = some r) : ∃ q, EX D 265 [.ref a0, .int p1] h q ∧ q.1 = some (.int r.1) ∧ HW (mkw c0 c1 c2 c3 c4 c5 c6 c7 c8 c9 c10 c11 r.2 c13) d q.2 := by
  obtain ⟨D, rfl⟩ : ∃ E, D = E + 1 := ⟨D - 1, by omega⟩
  unfold F_265 at hF
  refine ex_in (kl := kl_265) (nL := 4) rfl (by decide +kernel) (Nat.le_of_ble_eq_true rfl) ?_
  obtain ⟨QQ, hQQ⟩ : ∃ QQ : UR → Prop, QQ = (fun q : UR => q.1 = some (.int r.1) ∧ HW (mkw c0 c1 c2 c3 c4 c5 c6 c7 c8 c9 c10 c11 r.2 c13) d q.2) := ⟨_, rfl⟩
  rw [← hQQ]
  have hQ : ∀ h' : UH, HW (mkw c0 c1 c2 c3 c4 c5 c6 c7 c8 c9 c10 c11 r.2 c13) d h' → QQ (some (.int r.1), h') := fun h' p => by rw [hQQ]; exact ⟨rfl, p⟩
  clear hQQ
  show Ends (EX D) (u_at kl_265) (0, [some (.ref a0), some (.int p1), none, none], [], h) QQ
  refine en_segs [(0, .aload_n 0, []), (1, .iload_n 1, [])] (by decide +kernel) (y := (2, [some (.ref a0), some (.int p1), none, none], [.int p1, .ref a0], h)) rfl ?_
  obtain ⟨r1, hr1, hF⟩ := ob_some hF
  refine en_vi (r := []) (by decide +kernel : u_at kl_265 2 = some (.invokevirtual 367, [221, 1, 12])) hW ha0 rfl rfl (Nat.le_of_ble_eq_true rfl) (e_221 (D := D) (by omega) hW ha0 hr1) (fun h' q => ?_)
  subst q
  refine en_if_eq (by decide +kernel : u_at kl_265 5 = some (.ifCond .eq 11, [16])) (fun b2 => ?_) (fun b2 => ?_)
  · replace hF := i_pos b2 hF
    refine en_segs [(16, .iconst (-1), [])] (by decide +kernel) (y := (17, [some (.ref a0), some (.int p1), none, none], [.int (-1)], h)) rfl ?_
    obtain rfl := Option.some.inj hF
    exact en_ret (by decide +kernel : u_at kl_265 17 = some (.ireturn, [0])) rfl (hQ _ hW)
  · replace hF := i_neg b2 hF
    refine en_segs [(8, .aload_n 0, []), (9, .iload_n 1, [])] (by decide +kernel) (y := (10, [some (.ref a0), some (.int p1), none, none], [.int p1, .ref a0], h)) rfl ?_
    obtain ⟨r3, hr3, hF⟩ := ob_some hF
    refine en_vi (r := []) (by decide +kernel : u_at kl_265 10 = some (.invokevirtual 346, [224, 1, 12])) hW ha0 rfl rfl (Nat.le_of_ble_eq_true rfl) (e_224 (D := D) (by omega) hW ha0 hr3) (fun h' q => ?_)
    subst q
    refine en_if_ne (by decide +kernel : u_at kl_265 13 = some (.ifCond .ne 5, [18])) (fun b4 => ?_) (fun b4 => ?_)
    · replace hF := i_pos b4 hF
      refine en_segs [(16, .iconst (-1), [])] (by decide +kernel) (y := (17, [some (.ref a0), some (.int p1), none, none], [.int (-1)], h)) rfl ?_
      obtain rfl := Option.some.inj hF
      exact en_ret (by decide +kernel : u_at kl_265 17 = some (.ireturn, [0])) rfl (hQ _ hW)
    · replace hF := i_neg b4 hF
      refine en_segs [(18, .aload_n 0, []), (19, .aload_n 0, [])] (by decide +kernel) (y := (20, [some (.ref a0), some (.int p1), none, none], [.ref a0, .ref a0], h)) rfl ?_
      refine en_get (by decide +kernel : u_at kl_265 20 = some (.getfield 39, [12, 20])) hW ha0 (by decide) rfl ?_
      refine en_segs [(23, .sipush 220, [])] (by decide +kernel) (y := (26, [some (.ref a0), some (.int p1), none, none], [.int 220, .ref (aP d 12 20 a0), .ref a0], h)) rfl ?_
      obtain ⟨v5, hv5, hF⟩ := ob_some hF
      refine en_iald (by decide +kernel : u_at kl_265 26 = some (.iaload, [])) hW ha0 rfl (by decide) hv5 ?_
      obtain ⟨r6, hr6, hF⟩ := ob_some hF
      refine en_vl (r := []) (by decide +kernel : u_at kl_265 27 = some (.invokevirtual 455, [263, 1, 12])) hW ha0 rfl rfl (Nat.le_of_ble_eq_true rfl) (e_263 (D := D) (by omega) hW ha0 hr6) (fun h hW => ?_)
      have hW : HW (mkw c0 c1 c2 c3 c4 c5 c6 c7 c8 c9 c10 c11 r6.2 c13) d h := hW
      refine en_segs [(30, .pop2, []), (31, .iconst 0, []), (32, .istore_n 2, []), (33, .iconst 0, []), (34, .istore_n 3, [])] (by decide +kernel) (y := (35, [some (.ref a0), some (.int p1), some (.int 0), some (.int 0)], [], h)) rfl ?_
      exact (g_265 (D := D) hD ha0 _ _ _ _ _ hF) _ _ _ rfl rfl rfl rfl  _ hW _ hQ
def G_266 (a0 : Nat) (lab : Nat) (xs : List Int32) (ys : List Int64) (zs : List Nat) (c12 : Cl) : Option (Int32 × Cl) := match lab, xs, ys, zs with
  | 0, [x1], [], [] =>
    ald (cA c12 20 a0) 221 220 >>= fun v3 =>
    if v3 ≤ x1 then
    some ((-2), c12)
    else
    F_263 c12 a0 (x1 + 1) >>= fun r5 =>
    if (lg_cmp r5.1 0) = 0 then
    some (x1, r5.2)
    else
    G_266 a0 0 [x1 + 1] [] [] r5.2
  | _, _, _, _ => none
partial_fixpoint
set_option maxRecDepth 100000 in
set_option maxHeartbeats 4000000 in
theorem g_266 {D : Nat} (hD : 7 ≤ D + 1) {c0 c1 c2 c3 c4 c5 c6 c7 c8 c9 c10 c11 c13 : Cl} {d : Ad} {a0 : Nat} (ha0 : aK d a0 = (0, 12, 0)) : ∀ (lab : Nat) (xs : List Int32) (ys : List Int64) (zs : List Nat) (c12 : Cl) (r : (Int32 × Cl)), G_266 a0 lab xs ys zs c12 = some r →
    (∀ (x1 : Int32), lab = 0 → xs = [x1] → ys = [] → zs = [] → ∀ h : UH, HW (mkw c0 c1 c2 c3 c4 c5 c6 c7 c8 c9 c10 c11 c12 c13) d h → ∀ QQ : UR → Prop, (∀ h' : UH, HW (mkw c0 c1 c2 c3 c4 c5 c6 c7 c8 c9 c10 c11 r.2 c13) d h' → QQ (some (.int r.1), h')) → Ends (EX D) (u_at kl_266) (11, [some (.ref a0), some (.int x1)], [], h) QQ) := by
  refine G_266.partial_correctness _ (motive := fun lab xs ys zs c12 r =>
    (∀ (x1 : Int32), lab = 0 → xs = [x1] → ys = [] → zs = [] → ∀ h : UH, HW (mkw c0 c1 c2 c3 c4 c5 c6 c7 c8 c9 c10 c11 c12 c13) d h → ∀ QQ : UR → Prop, (∀ h' : UH, HW (mkw c0 c1 c2 c3 c4 c5 c6 c7 c8 c9 c10 c11 r.2 c13) d h' → QQ (some (.int r.1), h')) → Ends (EX D) (u_at kl_266) (11, [some (.ref a0), some (.int x1)], [], h) QQ)) ?_
  intro G ih lab xs ys zs c12 r hF
  · intro x1 e1 e2 e3 e4 h hW QQ hQ
    subst e1 e2 e3 e4
    refine en_segs [(11, .iload_n 1, []), (12, .aload_n 0, [])] (by decide +kernel) (y := (13, [some (.ref a0), some (.int x1)], [.ref a0, .int x1], h)) rfl ?_
    refine en_get (by decide +kernel : u_at kl_266 13 = some (.getfield 39, [12, 20])) hW ha0 (by decide) rfl ?_
    refine en_segs [(16, .sipush 220, [])] (by decide +kernel) (y := (19, [some (.ref a0), some (.int x1)], [.int 220, .ref (aP d 12 20 a0), .int x1], h)) rfl ?_
    obtain ⟨v3, hv3, hF⟩ := ob_some hF
    refine en_iald (by decide +kernel : u_at kl_266 19 = some (.iaload, [])) hW ha0 rfl (by decide) hv3 ?_
    refine en_ic_ge (by decide +kernel : u_at kl_266 20 = some (.if_icmp .ge 23, [43])) (fun b4 => ?_) (fun b4 => ?_)
    · replace hF := i_pos b4 hF
      refine en_segs [(43, .bipush (-2), [])] (by decide +kernel) (y := (45, [some (.ref a0), some (.int x1)], [.int (-2)], h)) rfl ?_
      obtain rfl := Option.some.inj hF
      exact en_ret (by decide +kernel : u_at kl_266 45 = some (.ireturn, [0])) rfl (hQ _ hW)
    · replace hF := i_neg b4 hF
      refine en_segs [(23, .aload_n 0, []), (24, .iload_n 1, []), (25, .iconst 1, []), (26, .iadd, [])] (by decide +kernel) (y := (27, [some (.ref a0), some (.int x1)], [.int (x1 + 1), .ref a0], h)) rfl ?_
      obtain ⟨r5, hr5, hF⟩ := ob_some hF
      refine en_vl (r := []) (by decide +kernel : u_at kl_266 27 = some (.invokevirtual 455, [263, 1, 12])) hW ha0 rfl rfl (Nat.le_of_ble_eq_true rfl) (e_263 (D := D) (by omega) hW ha0 hr5) (fun h hW => ?_)
      have hW : HW (mkw c0 c1 c2 c3 c4 c5 c6 c7 c8 c9 c10 c11 r5.2 c13) d h := hW
      refine en_segs [(30, .lconst 0, []), (31, .lcmp, [])] (by decide +kernel) (y := (32, [some (.ref a0), some (.int x1)], [.int (lg_cmp r5.1 0)], h)) rfl ?_
      refine en_if_ne (by decide +kernel : u_at kl_266 32 = some (.ifCond .ne 5, [37])) (fun b6 => ?_) (fun b6 => ?_)
      · replace hF := i_pos b6 hF
        refine en_segs [(35, .iload_n 1, [])] (by decide +kernel) (y := (36, [some (.ref a0), some (.int x1)], [.int x1], h)) rfl ?_
        obtain rfl := Option.some.inj hF
        exact en_ret (by decide +kernel : u_at kl_266 36 = some (.ireturn, [0])) rfl (hQ _ hW)
      · replace hF := i_neg b6 hF
        refine en_segs [(37, .iinc 1 1, []), (40, .goto (-29), [11])] (by decide +kernel) (y := (11, [some (.ref a0), some (.int (x1 + 1))], [], h)) rfl ?_
        exact (ih _ _ _ _ _ _ hF) _ rfl rfl rfl rfl  _ hW _ hQ
def F_266 (c12 : Cl) (a0 : Nat) : Option (Int32 × Cl) :=
  F_218 c12 a0 >>= fun r1 =>
  if r1 = 0 then
  some ((-1), c12)
  else
  G_266 a0 0 [0] [] [] c12
set_option maxRecDepth 100000 in
set_option maxHeartbeats 4000000 in
/-- HeadCountsModel.first -/
theorem e_266 {D : Nat} {c0 c1 c2 c3 c4 c5 c6 c7 c8 c9 c10 c11 c12 c13 : Cl} {d : Ad} {h : UH} {a0 : Nat} {r : (Int32 × Cl)} (hD : 7 ≤ D) (hW : HW (mkw c0 c1 c2 c3 c4 c5 c6 c7 c8 c9 c10 c11 c12 c13) d h) (ha0 : aK d a0 = (0, 12, 0)) (hF : F_266 c12 a0 = some r) : ∃ q, EX D 266 [.ref a0] h q ∧ q.1 = some (.int r.1) ∧ HW (mkw c0 c1 c2 c3 c4 c5 c6 c7 c8 c9 c10 c11 r.2 c13) d q.2 := by
  obtain ⟨D, rfl⟩ : ∃ E, D = E + 1 := ⟨D - 1, by omega⟩
  unfold F_266 at hF
  refine ex_in (kl := kl_266) (nL := 2) rfl (by decide +kernel) (Nat.le_of_ble_eq_true rfl) ?_
  obtain ⟨QQ, hQQ⟩ : ∃ QQ : UR → Prop, QQ = (fun q : UR => q.1 = some (.int r.1) ∧ HW (mkw c0 c1 c2 c3 c4 c5 c6 c7 c8 c9 c10 c11 r.2 c13) d q.2) := ⟨_, rfl⟩
  rw [← hQQ]
  have hQ : ∀ h' : UH, HW (mkw c0 c1 c2 c3 c4 c5 c6 c7 c8 c9 c10 c11 r.2 c13) d h' → QQ (some (.int r.1), h') := fun h' p => by rw [hQQ]; exact ⟨rfl, p⟩
  clear hQQ
  show Ends (EX D) (u_at kl_266) (0, [some (.ref a0), none], [], h) QQ
  refine en_segs [(0, .aload_n 0, [])] (by decide +kernel) (y := (1, [some (.ref a0), none], [.ref a0], h)) rfl ?_
  obtain ⟨r1, hr1, hF⟩ := ob_some hF
  refine en_vi (r := []) (by decide +kernel : u_at kl_266 1 = some (.invokevirtual 409, [218, 0, 12])) hW ha0 rfl rfl (Nat.le_of_ble_eq_true rfl) (e_218 (D := D) (by omega) hW ha0 hr1) (fun h' q => ?_)
  subst q
  refine en_if_ne (by decide +kernel : u_at kl_266 4 = some (.ifCond .ne 5, [9])) (fun b2 => ?_) (fun b2 => ?_)
  · replace hF := i_pos b2 hF
    refine en_segs [(7, .iconst (-1), [])] (by decide +kernel) (y := (8, [some (.ref a0), none], [.int (-1)], h)) rfl ?_
    obtain rfl := Option.some.inj hF
    exact en_ret (by decide +kernel : u_at kl_266 8 = some (.ireturn, [0])) rfl (hQ _ hW)
  · replace hF := i_neg b2 hF
    refine en_segs [(9, .iconst 0, []), (10, .istore_n 1, [])] (by decide +kernel) (y := (11, [some (.ref a0), some (.int 0)], [], h)) rfl ?_
    exact (g_266 (D := D) hD ha0 _ _ _ _ _ _ hF) _ rfl rfl rfl rfl  _ hW _ hQ
def G_267 (a0 : Nat) (lab : Nat) (xs : List Int32) (ys : List Int64) (zs : List Nat) (c12 : Cl) : Option (Int32 × Cl) := match lab, xs, ys, zs with
  | 0, [x1, x2], [], [] =>
    if 25 ≤ x2 then
    G_267 a0 1 [x1, 0, 0] [] [] c12
    else
    ast c12 28 a0 25 x2 0 >>= fun c12_2 =>
    G_267 a0 0 [x1, x2 + 1] [] [] c12_2
  | 1, [x1, x2, x3], [], [] =>
    if 46656 ≤ x3 then
    some (x2, c12)
    else
    ldl (cB c12 26 a0) 46656 x3 >>= fun v4 =>
    if (lg_cmp v4 0) = 0 then
    G_267 a0 1 [x1, x2, x3 + 1] [] [] c12
    else
    F_255 c12 a0 x3 >>= fun r6 =>
    F_258 r6 a0 x1 >>= fun r7 =>
    ald (cA r6 28 a0) 25 r7 >>= fun v8 =>
    ast r6 28 a0 25 r7 (v8 + 1) >>= fun c12_9 =>
    ald (cA c12_9 28 a0) 25 r7 >>= fun v10 =>
    ((if v10 ≤ x2 then
    some x2
    else
    ald (cA c12_9 28 a0) 25 r7 >>= fun v14 =>
    some v14) : Option (Int32)) >>= fun (t11 : Int32) =>
    G_267 a0 1 [x1, t11, x3 + 1] [] [] c12_9
  | _, _, _, _ => none
partial_fixpoint
set_option maxRecDepth 100000 in
set_option maxHeartbeats 4000000 in
theorem g_267 {D : Nat} (hD : 4 ≤ D + 1) {c0 c1 c2 c3 c4 c5 c6 c7 c8 c9 c10 c11 c13 : Cl} {d : Ad} {a0 : Nat} (ha0 : aK d a0 = (0, 12, 0)) : ∀ (lab : Nat) (xs : List Int32) (ys : List Int64) (zs : List Nat) (c12 : Cl) (r : (Int32 × Cl)), G_267 a0 lab xs ys zs c12 = some r →
    (∀ (x1 : Int32) (x2 : Int32), lab = 0 → xs = [x1, x2] → ys = [] → zs = [] → ∀ h : UH, HW (mkw c0 c1 c2 c3 c4 c5 c6 c7 c8 c9 c10 c11 c12 c13) d h → ∀ QQ : UR → Prop, (∀ h' : UH, HW (mkw c0 c1 c2 c3 c4 c5 c6 c7 c8 c9 c10 c11 r.2 c13) d h' → QQ (some (.int r.1), h')) → Ends (EX D) (u_at kl_267) (2, [some (.ref a0), some (.int x1), some (.int x2), none, none], [], h) QQ) ∧
    (∀ (x1 : Int32) (x2 : Int32) (x3 : Int32), lab = 1 → xs = [x1, x2, x3] → ys = [] → zs = [] → ∀ h : UH, HW (mkw c0 c1 c2 c3 c4 c5 c6 c7 c8 c9 c10 c11 c12 c13) d h → ∀ QQ : UR → Prop, (∀ h' : UH, HW (mkw c0 c1 c2 c3 c4 c5 c6 c7 c8 c9 c10 c11 r.2 c13) d h' → QQ (some (.int r.1), h')) → Ends (EX D) (u_at kl_267) (25, [some (.ref a0), some (.int x1), some (.int x2), some (.int x3), none], [], h) QQ) := by
  refine G_267.partial_correctness _ (motive := fun lab xs ys zs c12 r =>
    (∀ (x1 : Int32) (x2 : Int32), lab = 0 → xs = [x1, x2] → ys = [] → zs = [] → ∀ h : UH, HW (mkw c0 c1 c2 c3 c4 c5 c6 c7 c8 c9 c10 c11 c12 c13) d h → ∀ QQ : UR → Prop, (∀ h' : UH, HW (mkw c0 c1 c2 c3 c4 c5 c6 c7 c8 c9 c10 c11 r.2 c13) d h' → QQ (some (.int r.1), h')) → Ends (EX D) (u_at kl_267) (2, [some (.ref a0), some (.int x1), some (.int x2), none, none], [], h) QQ) ∧
    (∀ (x1 : Int32) (x2 : Int32) (x3 : Int32), lab = 1 → xs = [x1, x2, x3] → ys = [] → zs = [] → ∀ h : UH, HW (mkw c0 c1 c2 c3 c4 c5 c6 c7 c8 c9 c10 c11 c12 c13) d h → ∀ QQ : UR → Prop, (∀ h' : UH, HW (mkw c0 c1 c2 c3 c4 c5 c6 c7 c8 c9 c10 c11 r.2 c13) d h' → QQ (some (.int r.1), h')) → Ends (EX D) (u_at kl_267) (25, [some (.ref a0), some (.int x1), some (.int x2), some (.int x3), none], [], h) QQ)) ?_
  intro G ih lab xs ys zs c12 r hF
  refine ⟨?_, ?_⟩
  · intro x1 x2 e1 e2 e3 e4 h hW QQ hQ
    subst e1 e2 e3 e4
    refine en_segs [(2, .iload_n 2, []), (3, .bipush 25, [])] (by decide +kernel) (y := (5, [some (.ref a0), some (.int x1), some (.int x2), none, none], [.int 25, .int x2], h)) rfl ?_
    refine en_ic_ge (by decide +kernel : u_at kl_267 5 = some (.if_icmp .ge 16, [21])) (fun b1 => ?_) (fun b1 => ?_)
    · replace hF := i_pos b1 hF
      refine en_segs [(21, .iconst 0, []), (22, .istore_n 2, []), (23, .iconst 0, []), (24, .istore_n 3, [])] (by decide +kernel) (y := (25, [some (.ref a0), some (.int x1), some (.int 0), some (.int 0), none], [], h)) rfl ?_
      exact (ih _ _ _ _ _ _ hF).2 _ _ _ rfl rfl rfl rfl  _ hW _ hQ
    · replace hF := i_neg b1 hF
      refine en_segs [(8, .aload_n 0, [])] (by decide +kernel) (y := (9, [some (.ref a0), some (.int x1), some (.int x2), none, none], [.ref a0], h)) rfl ?_
      refine en_get (by decide +kernel : u_at kl_267 9 = some (.getfield 58, [12, 28])) hW ha0 (by decide) rfl ?_
      refine en_segs [(12, .iload_n 2, []), (13, .iconst 0, [])] (by decide +kernel) (y := (14, [some (.ref a0), some (.int x1), some (.int x2), none, none], [.int 0, .int x2, .ref (aP d 12 28 a0)], h)) rfl ?_
      obtain ⟨c12_2, hc12_2, hF⟩ := ob_some hF
      refine en_iast (by decide +kernel : u_at kl_267 14 = some (.iastore, [])) hW ha0 rfl (by decide) hc12_2 (fun h hW => ?_)
      have hW : HW (mkw c0 c1 c2 c3 c4 c5 c6 c7 c8 c9 c10 c11 c12_2 c13) d h := hW
      refine en_segs [(15, .iinc 2 1, []), (18, .goto (-16), [2])] (by decide +kernel) (y := (2, [some (.ref a0), some (.int x1), some (.int (x2 + 1)), none, none], [], h)) rfl ?_
      exact (ih _ _ _ _ _ _ hF).1 _ _ rfl rfl rfl rfl  _ hW _ hQ
  · intro x1 x2 x3 e1 e2 e3 e4 h hW QQ hQ
    subst e1 e2 e3 e4
    refine en_segs [(25, .iload_n 3, []), (26, .ldc 51, [46656])] (by decide +kernel) (y := (28, [some (.ref a0), some (.int x1), some (.int x2), some (.int x3), none], [.int 46656, .int x3], h)) rfl ?_
    refine en_ic_ge (by decide +kernel : u_at kl_267 28 = some (.if_icmp .ge 69, [97])) (fun b3 => ?_) (fun b3 => ?_)
    · replace hF := i_pos b3 hF
      refine en_segs [(97, .iload_n 2, [])] (by decide +kernel) (y := (98, [some (.ref a0), some (.int x1), some (.int x2), some (.int x3), none], [.int x2], h)) rfl ?_
      obtain rfl := Option.some.inj hF
      exact en_ret (by decide +kernel : u_at kl_267 98 = some (.ireturn, [0])) rfl (hQ _ hW)
    · replace hF := i_neg b3 hF
      refine en_segs [(31, .aload_n 0, [])] (by decide +kernel) (y := (32, [some (.ref a0), some (.int x1), some (.int x2), some (.int x3), none], [.ref a0], h)) rfl ?_
      refine en_get (by decide +kernel : u_at kl_267 32 = some (.getfield 52, [12, 26])) hW ha0 (by decide) rfl ?_
      refine en_segs [(35, .iload_n 3, [])] (by decide +kernel) (y := (36, [some (.ref a0), some (.int x1), some (.int x2), some (.int x3), none], [.int x3, .ref (aP d 12 26 a0)], h)) rfl ?_
      obtain ⟨v4, hv4, hF⟩ := ob_some hF
      refine en_lald (by decide +kernel : u_at kl_267 36 = some (.laload, [])) hW ha0 rfl (by decide) hv4 ?_
      refine en_segs [(37, .lconst 0, []), (38, .lcmp, [])] (by decide +kernel) (y := (39, [some (.ref a0), some (.int x1), some (.int x2), some (.int x3), none], [.int (lg_cmp v4 0)], h)) rfl ?_
      refine en_if_ne (by decide +kernel : u_at kl_267 39 = some (.ifCond .ne 6, [45])) (fun b5 => ?_) (fun b5 => ?_)
      · replace hF := i_pos b5 hF
        refine en_segs [(42, .goto 49, [91]), (91, .iinc 3 1, []), (94, .goto (-69), [25])] (by decide +kernel) (y := (25, [some (.ref a0), some (.int x1), some (.int x2), some (.int (x3 + 1)), none], [], h)) rfl ?_
        exact (ih _ _ _ _ _ _ hF).2 _ _ _ rfl rfl rfl rfl  _ hW _ hQ
      · replace hF := i_neg b5 hF
        refine en_segs [(45, .aload_n 0, []), (46, .iload_n 3, [])] (by decide +kernel) (y := (47, [some (.ref a0), some (.int x1), some (.int x2), some (.int x3), none], [.int x3, .ref a0], h)) rfl ?_
        obtain ⟨r6, hr6, hF⟩ := ob_some hF
        refine en_vv (r := []) (by decide +kernel : u_at kl_267 47 = some (.invokevirtual 434, [255, 1, 12])) hW ha0 rfl rfl (Nat.le_of_ble_eq_true rfl) (e_255 (D := D) (by omega) hW ha0 hr6) (fun h hW => ?_)
        have hW : HW (mkw c0 c1 c2 c3 c4 c5 c6 c7 c8 c9 c10 c11 r6 c13) d h := hW
        refine en_segs [(50, .aload_n 0, []), (51, .iload_n 1, [])] (by decide +kernel) (y := (52, [some (.ref a0), some (.int x1), some (.int x2), some (.int x3), none], [.int x1, .ref a0], h)) rfl ?_
        obtain ⟨r7, hr7, hF⟩ := ob_some hF
        refine en_vi (r := []) (by decide +kernel : u_at kl_267 52 = some (.invokevirtual 437, [258, 1, 12])) hW ha0 rfl rfl (Nat.le_of_ble_eq_true rfl) (e_258 (D := D) (by omega) hW ha0 hr7) (fun h' q => ?_)
        subst q
        refine en_segs [(55, .istore 4, []), (57, .aload_n 0, [])] (by decide +kernel) (y := (58, [some (.ref a0), some (.int x1), some (.int x2), some (.int x3), some (.int r7)], [.ref a0], h)) rfl ?_
        refine en_get (by decide +kernel : u_at kl_267 58 = some (.getfield 58, [12, 28])) hW ha0 (by decide) rfl ?_
        refine en_segs [(61, .iload 4, []), (63, .dup2, [])] (by decide +kernel) (y := (64, [some (.ref a0), some (.int x1), some (.int x2), some (.int x3), some (.int r7)], [.int r7, .ref (aP d 12 28 a0), .int r7, .ref (aP d 12 28 a0)], h)) rfl ?_
        obtain ⟨v8, hv8, hF⟩ := ob_some hF
        refine en_iald (by decide +kernel : u_at kl_267 64 = some (.iaload, [])) hW ha0 rfl (by decide) hv8 ?_
        refine en_segs [(65, .iconst 1, []), (66, .iadd, [])] (by decide +kernel) (y := (67, [some (.ref a0), some (.int x1), some (.int x2), some (.int x3), some (.int r7)], [.int (v8 + 1), .int r7, .ref (aP d 12 28 a0)], h)) rfl ?_
        obtain ⟨c12_9, hc12_9, hF⟩ := ob_some hF
        refine en_iast (by decide +kernel : u_at kl_267 67 = some (.iastore, [])) hW ha0 rfl (by decide) hc12_9 (fun h hW => ?_)
        have hW : HW (mkw c0 c1 c2 c3 c4 c5 c6 c7 c8 c9 c10 c11 c12_9 c13) d h := hW
        refine en_segs [(68, .aload_n 0, [])] (by decide +kernel) (y := (69, [some (.ref a0), some (.int x1), some (.int x2), some (.int x3), some (.int r7)], [.ref a0], h)) rfl ?_
        refine en_get (by decide +kernel : u_at kl_267 69 = some (.getfield 58, [12, 28])) hW ha0 (by decide) rfl ?_
        refine en_segs [(72, .iload 4, [])] (by decide +kernel) (y := (74, [some (.ref a0), some (.int x1), some (.int x2), some (.int x3), some (.int r7)], [.int r7, .ref (aP d 12 28 a0)], h)) rfl ?_
        obtain ⟨v10, hv10, hF⟩ := ob_some hF
        refine en_iald (by decide +kernel : u_at kl_267 74 = some (.iaload, [])) hW ha0 rfl (by decide) hv10 ?_
        refine en_segs [(75, .iload_n 2, [])] (by decide +kernel) (y := (76, [some (.ref a0), some (.int x1), some (.int x2), some (.int x3), some (.int r7)], [.int x2, .int v10], h)) rfl ?_
        obtain ⟨t11, hX, hK⟩ := ob_some hF
        have j12 : ∀ h : UH, HW (mkw c0 c1 c2 c3 c4 c5 c6 c7 c8 c9 c10 c11 c12_9 c13) d h → Ends (EX D) (u_at kl_267) (90, [some (.ref a0), some (.int x1), some (.int x2), some (.int x3), some (.int r7)], [.int t11], h) QQ := by
          intro h hW
          have hF := hK
          refine en_segs [(90, .istore_n 2, []), (91, .iinc 3 1, []), (94, .goto (-69), [25])] (by decide +kernel) (y := (25, [some (.ref a0), some (.int x1), some (.int t11), some (.int (x3 + 1)), some (.int r7)], [], h)) rfl ?_
          refine en_fg (fg_k (fg_k (fg_k (fg_k (fg_d fg_0))))) ?_
          exact (ih _ _ _ _ _ _ hF).2 _ _ _ rfl rfl rfl rfl  _ hW _ hQ
        have hF := hX
        refine en_ic_le (by decide +kernel : u_at kl_267 76 = some (.if_icmp .le 13, [89])) (fun b13 => ?_) (fun b13 => ?_)
        · replace hF := i_pos b13 hF
          refine en_segs [(89, .iload_n 2, [])] (by decide +kernel) (y := (90, [some (.ref a0), some (.int x1), some (.int x2), some (.int x3), some (.int r7)], [.int x2], h)) rfl ?_
          obtain rfl := Option.some.inj hF
          exact j12 _ hW
        · replace hF := i_neg b13 hF
          refine en_segs [(79, .aload_n 0, [])] (by decide +kernel) (y := (80, [some (.ref a0), some (.int x1), some (.int x2), some (.int x3), some (.int r7)], [.ref a0], h)) rfl ?_
          refine en_get (by decide +kernel : u_at kl_267 80 = some (.getfield 58, [12, 28])) hW ha0 (by decide) rfl ?_
          refine en_segs [(83, .iload 4, [])] (by decide +kernel) (y := (85, [some (.ref a0), some (.int x1), some (.int x2), some (.int x3), some (.int r7)], [.int r7, .ref (aP d 12 28 a0)], h)) rfl ?_
          obtain ⟨v14, hv14, hF⟩ := ob_some hF
          refine en_iald (by decide +kernel : u_at kl_267 85 = some (.iaload, [])) hW ha0 rfl (by decide) hv14 ?_
          refine en_segs [(86, .goto 4, [90])] (by decide +kernel) (y := (90, [some (.ref a0), some (.int x1), some (.int x2), some (.int x3), some (.int r7)], [.int v14], h)) rfl ?_
          obtain rfl := Option.some.inj hF
          exact j12 _ hW
def F_267 (c12 : Cl) (a0 : Nat) (p1 : Int32) : Option (Int32 × Cl) :=
  G_267 a0 0 [p1, 0] [] [] c12
set_option maxRecDepth 100000 in
set_option maxHeartbeats 4000000 in
/-- HeadCountsModel.mostAlike -/
theorem e_267 {D : Nat} {c0 c1 c2 c3 c4 c5 c6 c7 c8 c9 c10 c11 c12 c13 : Cl} {d : Ad} {h : UH} {a0 : Nat} {p1 : Int32} {r : (Int32 × Cl)} (hD : 4 ≤ D) (hW : HW (mkw c0 c1 c2 c3 c4 c5 c6 c7 c8 c9 c10 c11 c12 c13) d h) (ha0 : aK d a0 = (0, 12, 0)) (hF : F_267 c12 a0 p1 = some r) : ∃ q, EX D 267 [.ref a0, .int p1] h q ∧ q.1 = some (.int r.1) ∧ HW (mkw c0 c1 c2 c3 c4 c5 c6 c7 c8 c9 c10 c11 r.2 c13) d q.2 := by
  obtain ⟨D, rfl⟩ : ∃ E, D = E + 1 := ⟨D - 1, by omega⟩
  unfold F_267 at hF
  refine ex_in (kl := kl_267) (nL := 5) rfl (by decide +kernel) (Nat.le_of_ble_eq_true rfl) ?_
  obtain ⟨QQ, hQQ⟩ : ∃ QQ : UR → Prop, QQ = (fun q : UR => q.1 = some (.int r.1) ∧ HW (mkw c0 c1 c2 c3 c4 c5 c6 c7 c8 c9 c10 c11 r.2 c13) d q.2) := ⟨_, rfl⟩
  rw [← hQQ]
  have hQ : ∀ h' : UH, HW (mkw c0 c1 c2 c3 c4 c5 c6 c7 c8 c9 c10 c11 r.2 c13) d h' → QQ (some (.int r.1), h') := fun h' p => by rw [hQQ]; exact ⟨rfl, p⟩
  clear hQQ
  show Ends (EX D) (u_at kl_267) (0, [some (.ref a0), some (.int p1), none, none, none], [], h) QQ
  refine en_segs [(0, .iconst 0, []), (1, .istore_n 2, [])] (by decide +kernel) (y := (2, [some (.ref a0), some (.int p1), some (.int 0), none, none], [], h)) rfl ?_
  exact (g_267 (D := D) hD ha0 _ _ _ _ _ _ hF).1 _ _ rfl rfl rfl rfl  _ hW _ hQ
def G_268 (a0 : Nat) (lab : Nat) (xs : List Int32) (ys : List Int64) (zs : List Nat) (c12 : Cl) : Option (Int32 × Cl) := match lab, xs, ys, zs with
  | 0, [x1, x2, x3], [], [] =>
    if 46656 ≤ x3 then
    if x1 = 1 then
    some (x2, c12)
    else
    if x2 = 0 then
    some ((-2), c12)
    else
    F_267 c12 a0 0 >>= fun r10 =>
    G_268 a0 1 [x1, 0, r10.1, 1] [] [] r10.2
    else
    ldl (cB c12 26 a0) 46656 x3 >>= fun v11 =>
    ((if (lg_cmp v11 0) ≤ 0 then
    some 0
    else
    some 1) : Option (Int32)) >>= fun (t12 : Int32) =>
    G_268 a0 0 [x1, x2 + t12, x3 + 1] [] [] c12
  | 1, [x1, x3, x4, x5], [], [] =>
    ald (cA c12 20 a0) 221 0 >>= fun v15 =>
    if v15 ≤ x5 then
    ((if x1 = 0 then
    some x3
    else
    some x4) : Option (Int32)) >>= fun (t17 : Int32) =>
    some (t17, c12)
    else
    F_267 c12 a0 x5 >>= fun r20 =>
    ((if r20.1 < x4 then
    some (x5, r20.1)
    else
    some (x3, x4)) : Option (Int32 × Int32)) >>= fun (t21 : Int32 × Int32) =>
    G_268 a0 1 [x1, t21.1, t21.2, x5 + 1] [] [] r20.2
  | _, _, _, _ => none
partial_fixpoint
set_option maxRecDepth 100000 in
set_option maxHeartbeats 4000000 in
theorem g_268 {D : Nat} (hD : 7 ≤ D + 1) {c0 c1 c2 c3 c4 c5 c6 c7 c8 c9 c10 c11 c13 : Cl} {d : Ad} {a0 : Nat} (ha0 : aK d a0 = (0, 12, 0)) : ∀ (lab : Nat) (xs : List Int32) (ys : List Int64) (zs : List Nat) (c12 : Cl) (r : (Int32 × Cl)), G_268 a0 lab xs ys zs c12 = some r →
    (∀ (x1 : Int32) (x2 : Int32) (x3 : Int32), lab = 0 → xs = [x1, x2, x3] → ys = [] → zs = [] → ∀ h : UH, HW (mkw c0 c1 c2 c3 c4 c5 c6 c7 c8 c9 c10 c11 c12 c13) d h → ∀ QQ : UR → Prop, (∀ h' : UH, HW (mkw c0 c1 c2 c3 c4 c5 c6 c7 c8 c9 c10 c11 r.2 c13) d h' → QQ (some (.int r.1), h')) → Ends (EX D) (u_at kl_268) (38, [some (.ref a0), some (.int x1), some (.int x2), some (.int x3), none, none, none], [], h) QQ) ∧
    (∀ (x1 : Int32) (x3 : Int32) (x4 : Int32) (x5 : Int32), lab = 1 → xs = [x1, x3, x4, x5] → ys = [] → zs = [] → ∀ h : UH, HW (mkw c0 c1 c2 c3 c4 c5 c6 c7 c8 c9 c10 c11 c12 c13) d h → ∀ QQ : UR → Prop, (∀ h' : UH, HW (mkw c0 c1 c2 c3 c4 c5 c6 c7 c8 c9 c10 c11 r.2 c13) d h' → QQ (some (.int r.1), h')) → Ends (EX D) (u_at kl_268) (95, [some (.ref a0), some (.int x1), none, some (.int x3), some (.int x4), some (.int x5), none], [], h) QQ) := by
  refine G_268.partial_correctness _ (motive := fun lab xs ys zs c12 r =>
    (∀ (x1 : Int32) (x2 : Int32) (x3 : Int32), lab = 0 → xs = [x1, x2, x3] → ys = [] → zs = [] → ∀ h : UH, HW (mkw c0 c1 c2 c3 c4 c5 c6 c7 c8 c9 c10 c11 c12 c13) d h → ∀ QQ : UR → Prop, (∀ h' : UH, HW (mkw c0 c1 c2 c3 c4 c5 c6 c7 c8 c9 c10 c11 r.2 c13) d h' → QQ (some (.int r.1), h')) → Ends (EX D) (u_at kl_268) (38, [some (.ref a0), some (.int x1), some (.int x2), some (.int x3), none, none, none], [], h) QQ) ∧
    (∀ (x1 : Int32) (x3 : Int32) (x4 : Int32) (x5 : Int32), lab = 1 → xs = [x1, x3, x4, x5] → ys = [] → zs = [] → ∀ h : UH, HW (mkw c0 c1 c2 c3 c4 c5 c6 c7 c8 c9 c10 c11 c12 c13) d h → ∀ QQ : UR → Prop, (∀ h' : UH, HW (mkw c0 c1 c2 c3 c4 c5 c6 c7 c8 c9 c10 c11 r.2 c13) d h' → QQ (some (.int r.1), h')) → Ends (EX D) (u_at kl_268) (95, [some (.ref a0), some (.int x1), none, some (.int x3), some (.int x4), some (.int x5), none], [], h) QQ)) ?_
  intro G ih lab xs ys zs c12 r hF
  refine ⟨?_, ?_⟩
  · intro x1 x2 x3 e1 e2 e3 e4 h hW QQ hQ
    subst e1 e2 e3 e4
    refine en_segs [(38, .iload_n 3, []), (39, .ldc 51, [46656])] (by decide +kernel) (y := (41, [some (.ref a0), some (.int x1), some (.int x2), some (.int x3), none, none, none], [.int 46656, .int x3], h)) rfl ?_
    refine en_ic_ge (by decide +kernel : u_at kl_268 41 = some (.if_icmp .ge 28, [69])) (fun b7 => ?_) (fun b7 => ?_)
    · replace hF := i_pos b7 hF
      refine en_segs [(69, .iload_n 1, []), (70, .iconst 1, [])] (by decide +kernel) (y := (71, [some (.ref a0), some (.int x1), some (.int x2), some (.int x3), none, none, none], [.int 1, .int x1], h)) rfl ?_
      refine en_ic_ne (by decide +kernel : u_at kl_268 71 = some (.if_icmp .ne 5, [76])) (fun b8 => ?_) (fun b8 => ?_)
      · replace hF := i_pos b8 hF
        refine en_segs [(74, .iload_n 2, [])] (by decide +kernel) (y := (75, [some (.ref a0), some (.int x1), some (.int x2), some (.int x3), none, none, none], [.int x2], h)) rfl ?_
        obtain rfl := Option.some.inj hF
        exact en_ret (by decide +kernel : u_at kl_268 75 = some (.ireturn, [0])) rfl (hQ _ hW)
      · replace hF := i_neg b8 hF
        refine en_segs [(76, .iload_n 2, [])] (by decide +kernel) (y := (77, [some (.ref a0), some (.int x1), some (.int x2), some (.int x3), none, none, none], [.int x2], h)) rfl ?_
        refine en_if_ne (by decide +kernel : u_at kl_268 77 = some (.ifCond .ne 6, [83])) (fun b9 => ?_) (fun b9 => ?_)
        · replace hF := i_pos b9 hF
          refine en_segs [(80, .bipush (-2), [])] (by decide +kernel) (y := (82, [some (.ref a0), some (.int x1), some (.int x2), some (.int x3), none, none, none], [.int (-2)], h)) rfl ?_
          obtain rfl := Option.some.inj hF
          exact en_ret (by decide +kernel : u_at kl_268 82 = some (.ireturn, [0])) rfl (hQ _ hW)
        · replace hF := i_neg b9 hF
          refine en_segs [(83, .iconst 0, []), (84, .istore_n 3, []), (85, .aload_n 0, []), (86, .iconst 0, [])] (by decide +kernel) (y := (87, [some (.ref a0), some (.int x1), some (.int x2), some (.int 0), none, none, none], [.int 0, .ref a0], h)) rfl ?_
          obtain ⟨r10, hr10, hF⟩ := ob_some hF
          refine en_vi (r := []) (by decide +kernel : u_at kl_268 87 = some (.invokevirtual 461, [267, 1, 12])) hW ha0 rfl rfl (Nat.le_of_ble_eq_true rfl) (e_267 (D := D) (by omega) hW ha0 hr10) (fun h hW => ?_)
          have hW : HW (mkw c0 c1 c2 c3 c4 c5 c6 c7 c8 c9 c10 c11 r10.2 c13) d h := hW
          refine en_segs [(90, .istore 4, []), (92, .iconst 1, []), (93, .istore 5, [])] (by decide +kernel) (y := (95, [some (.ref a0), some (.int x1), some (.int x2), some (.int 0), some (.int r10.1), some (.int 1), none], [], h)) rfl ?_
          refine en_fg (fg_k (fg_k (fg_d (fg_k (fg_k (fg_k (fg_k fg_0))))))) ?_
          exact (ih _ _ _ _ _ _ hF).2 _ _ _ _ rfl rfl rfl rfl  _ hW _ hQ
    · replace hF := i_neg b7 hF
      refine en_segs [(44, .iload_n 2, []), (45, .aload_n 0, [])] (by decide +kernel) (y := (46, [some (.ref a0), some (.int x1), some (.int x2), some (.int x3), none, none, none], [.ref a0, .int x2], h)) rfl ?_
      refine en_get (by decide +kernel : u_at kl_268 46 = some (.getfield 52, [12, 26])) hW ha0 (by decide) rfl ?_
      refine en_segs [(49, .iload_n 3, [])] (by decide +kernel) (y := (50, [some (.ref a0), some (.int x1), some (.int x2), some (.int x3), none, none, none], [.int x3, .ref (aP d 12 26 a0), .int x2], h)) rfl ?_
      obtain ⟨v11, hv11, hF⟩ := ob_some hF
      refine en_lald (by decide +kernel : u_at kl_268 50 = some (.laload, [])) hW ha0 rfl (by decide) hv11 ?_
      refine en_segs [(51, .lconst 0, []), (52, .lcmp, [])] (by decide +kernel) (y := (53, [some (.ref a0), some (.int x1), some (.int x2), some (.int x3), none, none, none], [.int (lg_cmp v11 0), .int x2], h)) rfl ?_
      obtain ⟨t12, hX, hK⟩ := ob_some hF
      have j13 : ∀ h : UH, HW (mkw c0 c1 c2 c3 c4 c5 c6 c7 c8 c9 c10 c11 c12 c13) d h → Ends (EX D) (u_at kl_268) (61, [some (.ref a0), some (.int x1), some (.int x2), some (.int x3), none, none, none], [.int t12, .int x2], h) QQ := by
        intro h hW
        have hF := hK
        refine en_segs [(61, .iadd, []), (62, .istore_n 2, []), (63, .iinc 3 1, []), (66, .goto (-28), [38])] (by decide +kernel) (y := (38, [some (.ref a0), some (.int x1), some (.int (x2 + t12)), some (.int (x3 + 1)), none, none, none], [], h)) rfl ?_
        exact (ih _ _ _ _ _ _ hF).1 _ _ _ rfl rfl rfl rfl  _ hW _ hQ
      have hF := hX
      refine en_if_le (by decide +kernel : u_at kl_268 53 = some (.ifCond .le 7, [60])) (fun b14 => ?_) (fun b14 => ?_)
      · replace hF := i_pos b14 hF
        refine en_segs [(60, .iconst 0, [])] (by decide +kernel) (y := (61, [some (.ref a0), some (.int x1), some (.int x2), some (.int x3), none, none, none], [.int 0, .int x2], h)) rfl ?_
        obtain rfl := Option.some.inj hF
        exact j13 _ hW
      · replace hF := i_neg b14 hF
        refine en_segs [(56, .iconst 1, []), (57, .goto 4, [61])] (by decide +kernel) (y := (61, [some (.ref a0), some (.int x1), some (.int x2), some (.int x3), none, none, none], [.int 1, .int x2], h)) rfl ?_
        obtain rfl := Option.some.inj hF
        exact j13 _ hW
  · intro x1 x3 x4 x5 e1 e2 e3 e4 h hW QQ hQ
    subst e1 e2 e3 e4
    refine en_segs [(95, .iload 5, []), (97, .aload_n 0, [])] (by decide +kernel) (y := (98, [some (.ref a0), some (.int x1), none, some (.int x3), some (.int x4), some (.int x5), none], [.ref a0, .int x5], h)) rfl ?_
    refine en_get (by decide +kernel : u_at kl_268 98 = some (.getfield 39, [12, 20])) hW ha0 (by decide) rfl ?_
    refine en_segs [(101, .iconst 0, [])] (by decide +kernel) (y := (102, [some (.ref a0), some (.int x1), none, some (.int x3), some (.int x4), some (.int x5), none], [.int 0, .ref (aP d 12 20 a0), .int x5], h)) rfl ?_
    obtain ⟨v15, hv15, hF⟩ := ob_some hF
    refine en_iald (by decide +kernel : u_at kl_268 102 = some (.iaload, [])) hW ha0 rfl (by decide) hv15 ?_
    refine en_ic_ge (by decide +kernel : u_at kl_268 103 = some (.if_icmp .ge 34, [137])) (fun b16 => ?_) (fun b16 => ?_)
    · replace hF := i_pos b16 hF
      refine en_segs [(137, .iload_n 1, [])] (by decide +kernel) (y := (138, [some (.ref a0), some (.int x1), none, some (.int x3), some (.int x4), some (.int x5), none], [.int x1], h)) rfl ?_
      obtain ⟨t17, hX, hK⟩ := ob_some hF
      have j18 : ∀ h : UH, HW (mkw c0 c1 c2 c3 c4 c5 c6 c7 c8 c9 c10 c11 c12 c13) d h → Ends (EX D) (u_at kl_268) (147, [some (.ref a0), some (.int x1), none, some (.int x3), some (.int x4), some (.int x5), none], [.int t17], h) QQ := by
        intro h hW
        have hF := hK
        obtain rfl := Option.some.inj hF
        exact en_ret (by decide +kernel : u_at kl_268 147 = some (.ireturn, [0])) rfl (hQ _ hW)
      have hF := hX
      refine en_if_ne (by decide +kernel : u_at kl_268 138 = some (.ifCond .ne 7, [145])) (fun b19 => ?_) (fun b19 => ?_)
      · replace hF := i_pos b19 hF
        refine en_segs [(141, .iload_n 3, []), (142, .goto 5, [147])] (by decide +kernel) (y := (147, [some (.ref a0), some (.int x1), none, some (.int x3), some (.int x4), some (.int x5), none], [.int x3], h)) rfl ?_
        obtain rfl := Option.some.inj hF
        exact j18 _ hW
      · replace hF := i_neg b19 hF
        refine en_segs [(145, .iload 4, [])] (by decide +kernel) (y := (147, [some (.ref a0), some (.int x1), none, some (.int x3), some (.int x4), some (.int x5), none], [.int x4], h)) rfl ?_
        obtain rfl := Option.some.inj hF
        exact j18 _ hW
    · replace hF := i_neg b16 hF
      refine en_segs [(106, .aload_n 0, []), (107, .iload 5, [])] (by decide +kernel) (y := (109, [some (.ref a0), some (.int x1), none, some (.int x3), some (.int x4), some (.int x5), none], [.int x5, .ref a0], h)) rfl ?_
      obtain ⟨r20, hr20, hF⟩ := ob_some hF
      refine en_vi (r := []) (by decide +kernel : u_at kl_268 109 = some (.invokevirtual 461, [267, 1, 12])) hW ha0 rfl rfl (Nat.le_of_ble_eq_true rfl) (e_267 (D := D) (by omega) hW ha0 hr20) (fun h hW => ?_)
      have hW : HW (mkw c0 c1 c2 c3 c4 c5 c6 c7 c8 c9 c10 c11 r20.2 c13) d h := hW
      refine en_segs [(112, .istore 6, []), (114, .iload 6, []), (116, .iload 4, [])] (by decide +kernel) (y := (118, [some (.ref a0), some (.int x1), none, some (.int x3), some (.int x4), some (.int x5), some (.int r20.1)], [.int x4, .int r20.1], h)) rfl ?_
      obtain ⟨t21, hX, hK⟩ := ob_some hF
      have j22 : ∀ h : UH, HW (mkw c0 c1 c2 c3 c4 c5 c6 c7 c8 c9 c10 c11 r20.2 c13) d h → Ends (EX D) (u_at kl_268) (131, [some (.ref a0), some (.int x1), none, some (.int t21.1), some (.int t21.2), some (.int x5), some (.int r20.1)], [], h) QQ := by
        intro h hW
        have hF := hK
        refine en_segs [(131, .iinc 5 1, []), (134, .goto (-39), [95])] (by decide +kernel) (y := (95, [some (.ref a0), some (.int x1), none, some (.int t21.1), some (.int t21.2), some (.int (x5 + 1)), some (.int r20.1)], [], h)) rfl ?_
        refine en_fg (fg_k (fg_k (fg_k (fg_k (fg_k (fg_k (fg_d fg_0))))))) ?_
        exact (ih _ _ _ _ _ _ hF).2 _ _ _ _ rfl rfl rfl rfl  _ hW _ hQ
      have hF := hX
      refine en_ic_lt (by decide +kernel : u_at kl_268 118 = some (.if_icmp .lt 6, [124])) (fun b23 => ?_) (fun b23 => ?_)
      · replace hF := i_pos b23 hF
        refine en_segs [(124, .iload 5, []), (126, .istore_n 3, []), (127, .iload 6, []), (129, .istore 4, [])] (by decide +kernel) (y := (131, [some (.ref a0), some (.int x1), none, some (.int x5), some (.int r20.1), some (.int x5), some (.int r20.1)], [], h)) rfl ?_
        obtain rfl := Option.some.inj hF
        exact j22 _ hW
      · replace hF := i_neg b23 hF
        refine en_segs [(121, .goto 10, [131])] (by decide +kernel) (y := (131, [some (.ref a0), some (.int x1), none, some (.int x3), some (.int x4), some (.int x5), some (.int r20.1)], [], h)) rfl ?_
        obtain rfl := Option.some.inj hF
        exact j22 _ hW
def F_268 (c12 : Cl) (a0 : Nat) (p1 : Int32) : Option (Int32 × Cl) :=
  F_218 c12 a0 >>= fun r1 =>
  if r1 = 0 then
  some ((-1), c12)
  else
  F_170 ((p1 : Int32).toInt64) 0 2 >>= fun r3 =>
  if r3 = 0 then
  some ((-1), c12)
  else
  ald (cA c12 20 a0) 221 220 >>= fun v5 =>
  F_263 c12 a0 v5 >>= fun r6 =>
  G_268 a0 0 [p1, 0, 0] [] [] r6.2
set_option maxRecDepth 100000 in
set_option maxHeartbeats 4000000 in
/-- HeadCountsModel.next -/
theorem e_268 {D : Nat} {c0 c1 c2 c3 c4 c5 c6 c7 c8 c9 c10 c11 c12 c13 : Cl} {d : Ad} {h : UH} {a0 : Nat} {p1 : Int32} {r : (Int32 × Cl)} (hD : 7 ≤ D) (hW : HW (mkw c0 c1 c2 c3 c4 c5 c6 c7 c8 c9 c10 c11 c12 c13) d h) (ha0 : aK d a0 = (0, 12, 0)) (hF : F_268 c12 a0 p1 = some r) : ∃ q, EX D 268 [.ref a0, .int p1] h q ∧ q.1 = some (.int r.1) ∧ HW (mkw c0 c1 c2 c3 c4 c5 c6 c7 c8 c9 c10 c11 r.2 c13) d q.2 := by
  obtain ⟨D, rfl⟩ : ∃ E, D = E + 1 := ⟨D - 1, by omega⟩
  unfold F_268 at hF
  refine ex_in (kl := kl_268) (nL := 7) rfl (by decide +kernel) (Nat.le_of_ble_eq_true rfl) ?_
  obtain ⟨QQ, hQQ⟩ : ∃ QQ : UR → Prop, QQ = (fun q : UR => q.1 = some (.int r.1) ∧ HW (mkw c0 c1 c2 c3 c4 c5 c6 c7 c8 c9 c10 c11 r.2 c13) d q.2) := ⟨_, rfl⟩
  rw [← hQQ]
  have hQ : ∀ h' : UH, HW (mkw c0 c1 c2 c3 c4 c5 c6 c7 c8 c9 c10 c11 r.2 c13) d h' → QQ (some (.int r.1), h') := fun h' p => by rw [hQQ]; exact ⟨rfl, p⟩
  clear hQQ
  show Ends (EX D) (u_at kl_268) (0, [some (.ref a0), some (.int p1), none, none, none, none, none], [], h) QQ
  refine en_segs [(0, .aload_n 0, [])] (by decide +kernel) (y := (1, [some (.ref a0), some (.int p1), none, none, none, none, none], [.ref a0], h)) rfl ?_
  obtain ⟨r1, hr1, hF⟩ := ob_some hF
  refine en_vi (r := []) (by decide +kernel : u_at kl_268 1 = some (.invokevirtual 409, [218, 0, 12])) hW ha0 rfl rfl (Nat.le_of_ble_eq_true rfl) (e_218 (D := D) (by omega) hW ha0 hr1) (fun h' q => ?_)
  subst q
  refine en_if_eq (by decide +kernel : u_at kl_268 4 = some (.ifCond .eq 15, [19])) (fun b2 => ?_) (fun b2 => ?_)
  · replace hF := i_pos b2 hF
    refine en_segs [(19, .iconst (-1), [])] (by decide +kernel) (y := (20, [some (.ref a0), some (.int p1), none, none, none, none, none], [.int (-1)], h)) rfl ?_
    obtain rfl := Option.some.inj hF
    exact en_ret (by decide +kernel : u_at kl_268 20 = some (.ireturn, [0])) rfl (hQ _ hW)
  · replace hF := i_neg b2 hF
    refine en_segs [(7, .iload_n 1, []), (8, .i2l, []), (9, .lconst 0, []), (10, .ldc2_w 384, [2])] (by decide +kernel) (y := (13, [some (.ref a0), some (.int p1), none, none, none, none, none], [.long 2, .long 0, .long ((p1 : Int32).toInt64)], h)) rfl ?_
    obtain ⟨r3, hr3, hF⟩ := ob_some hF
    refine en_si (r := []) (by decide +kernel : u_at kl_268 13 = some (.invokestatic 161, [170, 3])) rfl rfl (Nat.le_of_ble_eq_true rfl) (e_170 (D := D) (by omega) hW hr3) (fun h' q => ?_)
    subst q
    refine en_if_ne (by decide +kernel : u_at kl_268 16 = some (.ifCond .ne 5, [21])) (fun b4 => ?_) (fun b4 => ?_)
    · replace hF := i_pos b4 hF
      refine en_segs [(19, .iconst (-1), [])] (by decide +kernel) (y := (20, [some (.ref a0), some (.int p1), none, none, none, none, none], [.int (-1)], h)) rfl ?_
      obtain rfl := Option.some.inj hF
      exact en_ret (by decide +kernel : u_at kl_268 20 = some (.ireturn, [0])) rfl (hQ _ hW)
    · replace hF := i_neg b4 hF
      refine en_segs [(21, .aload_n 0, []), (22, .aload_n 0, [])] (by decide +kernel) (y := (23, [some (.ref a0), some (.int p1), none, none, none, none, none], [.ref a0, .ref a0], h)) rfl ?_
      refine en_get (by decide +kernel : u_at kl_268 23 = some (.getfield 39, [12, 20])) hW ha0 (by decide) rfl ?_
      refine en_segs [(26, .sipush 220, [])] (by decide +kernel) (y := (29, [some (.ref a0), some (.int p1), none, none, none, none, none], [.int 220, .ref (aP d 12 20 a0), .ref a0], h)) rfl ?_
      obtain ⟨v5, hv5, hF⟩ := ob_some hF
      refine en_iald (by decide +kernel : u_at kl_268 29 = some (.iaload, [])) hW ha0 rfl (by decide) hv5 ?_
      obtain ⟨r6, hr6, hF⟩ := ob_some hF
      refine en_vl (r := []) (by decide +kernel : u_at kl_268 30 = some (.invokevirtual 455, [263, 1, 12])) hW ha0 rfl rfl (Nat.le_of_ble_eq_true rfl) (e_263 (D := D) (by omega) hW ha0 hr6) (fun h hW => ?_)
      have hW : HW (mkw c0 c1 c2 c3 c4 c5 c6 c7 c8 c9 c10 c11 r6.2 c13) d h := hW
      refine en_segs [(33, .pop2, []), (34, .iconst 0, []), (35, .istore_n 2, []), (36, .iconst 0, []), (37, .istore_n 3, [])] (by decide +kernel) (y := (38, [some (.ref a0), some (.int p1), some (.int 0), some (.int 0), none, none, none], [], h)) rfl ?_
      exact (g_268 (D := D) hD ha0 _ _ _ _ _ _ hF).1 _ _ _ rfl rfl rfl rfl  _ hW _ hQ
def G_269 (a0 : Nat) (lab : Nat) (xs : List Int32) (ys : List Int64) (zs : List Nat) (c12 : Cl) : Option Cl := match lab, xs, ys, zs with
  | 0, [x1], [], [] =>
    ald (cA c12 20 a0) 221 2 >>= fun v4 =>
    if v4 ≤ x1 then
    some c12
    else
    G_269 a0 1 [x1, 0] [] [] c12
  | 1, [x1, x2], [], [] =>
    ald (cA c12 20 a0) 221 0 >>= fun v6 =>
    if v6 ≤ x2 then
    G_269 a0 0 [x1 + 1] [] [] c12
    else
    F_260 c12 a0 x1 x2 >>= fun r8 =>
    ((if r8 = 0 then
    some c12
    else
    ast c12 29 a0 30 (cI c12 31 a0) x1 >>= fun c12_12 =>
    ast c12_12 30 a0 30 (cI c12_12 31 a0) x2 >>= fun c12_13 =>
    some (sI c12_13 31 a0 ((cI c12_13 31 a0) + 1)) >>= fun c12_14 =>
    some c12_14) : Option (Cl)) >>= fun (t9 : Cl) =>
    G_269 a0 1 [x1, x2 + 1] [] [] t9
  | _, _, _, _ => none
partial_fixpoint
set_option maxRecDepth 100000 in
set_option maxHeartbeats 4000000 in
theorem g_269 {D : Nat} (hD : 5 ≤ D + 1) {c0 c1 c2 c3 c4 c5 c6 c7 c8 c9 c10 c11 c13 : Cl} {d : Ad} {a0 : Nat} (ha0 : aK d a0 = (0, 12, 0)) : ∀ (lab : Nat) (xs : List Int32) (ys : List Int64) (zs : List Nat) (c12 : Cl) (r : Cl), G_269 a0 lab xs ys zs c12 = some r →
    (∀ (x1 : Int32), lab = 0 → xs = [x1] → ys = [] → zs = [] → ∀ h : UH, HW (mkw c0 c1 c2 c3 c4 c5 c6 c7 c8 c9 c10 c11 c12 c13) d h → ∀ QQ : UR → Prop, (∀ h' : UH, HW (mkw c0 c1 c2 c3 c4 c5 c6 c7 c8 c9 c10 c11 r c13) d h' → QQ (none, h')) → Ends (EX D) (u_at kl_269) (15, [some (.ref a0), some (.int x1), none], [], h) QQ) ∧
    (∀ (x1 : Int32) (x2 : Int32), lab = 1 → xs = [x1, x2] → ys = [] → zs = [] → ∀ h : UH, HW (mkw c0 c1 c2 c3 c4 c5 c6 c7 c8 c9 c10 c11 c12 c13) d h → ∀ QQ : UR → Prop, (∀ h' : UH, HW (mkw c0 c1 c2 c3 c4 c5 c6 c7 c8 c9 c10 c11 r c13) d h' → QQ (none, h')) → Ends (EX D) (u_at kl_269) (27, [some (.ref a0), some (.int x1), some (.int x2)], [], h) QQ) := by
  refine G_269.partial_correctness _ (motive := fun lab xs ys zs c12 r =>
    (∀ (x1 : Int32), lab = 0 → xs = [x1] → ys = [] → zs = [] → ∀ h : UH, HW (mkw c0 c1 c2 c3 c4 c5 c6 c7 c8 c9 c10 c11 c12 c13) d h → ∀ QQ : UR → Prop, (∀ h' : UH, HW (mkw c0 c1 c2 c3 c4 c5 c6 c7 c8 c9 c10 c11 r c13) d h' → QQ (none, h')) → Ends (EX D) (u_at kl_269) (15, [some (.ref a0), some (.int x1), none], [], h) QQ) ∧
    (∀ (x1 : Int32) (x2 : Int32), lab = 1 → xs = [x1, x2] → ys = [] → zs = [] → ∀ h : UH, HW (mkw c0 c1 c2 c3 c4 c5 c6 c7 c8 c9 c10 c11 c12 c13) d h → ∀ QQ : UR → Prop, (∀ h' : UH, HW (mkw c0 c1 c2 c3 c4 c5 c6 c7 c8 c9 c10 c11 r c13) d h' → QQ (none, h')) → Ends (EX D) (u_at kl_269) (27, [some (.ref a0), some (.int x1), some (.int x2)], [], h) QQ)) ?_
  intro G ih lab xs ys zs c12 r hF
  refine ⟨?_, ?_⟩
  · intro x1 e1 e2 e3 e4 h hW QQ hQ
    subst e1 e2 e3 e4
    refine en_segs [(15, .iload_n 1, []), (16, .aload_n 0, [])] (by decide +kernel) (y := (17, [some (.ref a0), some (.int x1), none], [.ref a0, .int x1], h)) rfl ?_
    refine en_get (by decide +kernel : u_at kl_269 17 = some (.getfield 39, [12, 20])) hW ha0 (by decide) rfl ?_
    refine en_segs [(20, .iconst 2, [])] (by decide +kernel) (y := (21, [some (.ref a0), some (.int x1), none], [.int 2, .ref (aP d 12 20 a0), .int x1], h)) rfl ?_
    obtain ⟨v4, hv4, hF⟩ := ob_some hF
    refine en_iald (by decide +kernel : u_at kl_269 21 = some (.iaload, [])) hW ha0 rfl (by decide) hv4 ?_
    refine en_ic_ge (by decide +kernel : u_at kl_269 22 = some (.if_icmp .ge 69, [91])) (fun b5 => ?_) (fun b5 => ?_)
    · replace hF := i_pos b5 hF
      obtain rfl := Option.some.inj hF
      exact en_ret (by decide +kernel : u_at kl_269 91 = some (.return_, [])) rfl (hQ _ hW)
    · replace hF := i_neg b5 hF
      refine en_segs [(25, .iconst 0, []), (26, .istore_n 2, [])] (by decide +kernel) (y := (27, [some (.ref a0), some (.int x1), some (.int 0)], [], h)) rfl ?_
      exact (ih _ _ _ _ _ _ hF).2 _ _ rfl rfl rfl rfl  _ hW _ hQ
  · intro x1 x2 e1 e2 e3 e4 h hW QQ hQ
    subst e1 e2 e3 e4
    refine en_segs [(27, .iload_n 2, []), (28, .aload_n 0, [])] (by decide +kernel) (y := (29, [some (.ref a0), some (.int x1), some (.int x2)], [.ref a0, .int x2], h)) rfl ?_
    refine en_get (by decide +kernel : u_at kl_269 29 = some (.getfield 39, [12, 20])) hW ha0 (by decide) rfl ?_
    refine en_segs [(32, .iconst 0, [])] (by decide +kernel) (y := (33, [some (.ref a0), some (.int x1), some (.int x2)], [.int 0, .ref (aP d 12 20 a0), .int x2], h)) rfl ?_
    obtain ⟨v6, hv6, hF⟩ := ob_some hF
    refine en_iald (by decide +kernel : u_at kl_269 33 = some (.iaload, [])) hW ha0 rfl (by decide) hv6 ?_
    refine en_ic_ge (by decide +kernel : u_at kl_269 34 = some (.if_icmp .ge 51, [85])) (fun b7 => ?_) (fun b7 => ?_)
    · replace hF := i_pos b7 hF
      refine en_segs [(85, .iinc 1 1, []), (88, .goto (-73), [15])] (by decide +kernel) (y := (15, [some (.ref a0), some (.int (x1 + 1)), some (.int x2)], [], h)) rfl ?_
      refine en_fg (fg_k (fg_k (fg_d fg_0))) ?_
      exact (ih _ _ _ _ _ _ hF).1 _ rfl rfl rfl rfl  _ hW _ hQ
    · replace hF := i_neg b7 hF
      refine en_segs [(37, .aload_n 0, []), (38, .iload_n 1, []), (39, .iload_n 2, [])] (by decide +kernel) (y := (40, [some (.ref a0), some (.int x1), some (.int x2)], [.int x2, .int x1, .ref a0], h)) rfl ?_
      obtain ⟨r8, hr8, hF⟩ := ob_some hF
      refine en_vi (r := []) (by decide +kernel : u_at kl_269 40 = some (.invokevirtual 443, [260, 2, 12])) hW ha0 rfl rfl (Nat.le_of_ble_eq_true rfl) (e_260 (D := D) (by omega) hW ha0 hr8) (fun h' q => ?_)
      subst q
      obtain ⟨t9, hX, hK⟩ := ob_some hF
      have j10 : ∀ h : UH, HW (mkw c0 c1 c2 c3 c4 c5 c6 c7 c8 c9 c10 c11 t9 c13) d h → Ends (EX D) (u_at kl_269) (79, [some (.ref a0), some (.int x1), some (.int x2)], [], h) QQ := by
        intro h hW
        have hF := hK
        refine en_segs [(79, .iinc 2 1, []), (82, .goto (-55), [27])] (by decide +kernel) (y := (27, [some (.ref a0), some (.int x1), some (.int (x2 + 1))], [], h)) rfl ?_
        exact (ih _ _ _ _ _ _ hF).2 _ _ rfl rfl rfl rfl  _ hW _ hQ
      have hF := hX
      refine en_if_ne (by decide +kernel : u_at kl_269 43 = some (.ifCond .ne 6, [49])) (fun b11 => ?_) (fun b11 => ?_)
      · replace hF := i_pos b11 hF
        refine en_segs [(46, .goto 33, [79])] (by decide +kernel) (y := (79, [some (.ref a0), some (.int x1), some (.int x2)], [], h)) rfl ?_
        obtain rfl := Option.some.inj hF
        exact j10 _ hW
      · replace hF := i_neg b11 hF
        refine en_segs [(49, .aload_n 0, [])] (by decide +kernel) (y := (50, [some (.ref a0), some (.int x1), some (.int x2)], [.ref a0], h)) rfl ?_
        refine en_get (by decide +kernel : u_at kl_269 50 = some (.getfield 61, [12, 29])) hW ha0 (by decide) rfl ?_
        refine en_segs [(53, .aload_n 0, [])] (by decide +kernel) (y := (54, [some (.ref a0), some (.int x1), some (.int x2)], [.ref a0, .ref (aP d 12 29 a0)], h)) rfl ?_
        refine en_get (by decide +kernel : u_at kl_269 54 = some (.getfield 464, [12, 31])) hW ha0 (by decide) rfl ?_
        refine en_segs [(57, .iload_n 1, [])] (by decide +kernel) (y := (58, [some (.ref a0), some (.int x1), some (.int x2)], [.int x1, .int (cI c12 31 a0), .ref (aP d 12 29 a0)], h)) rfl ?_
        obtain ⟨c12_12, hc12_12, hF⟩ := ob_some hF
        refine en_iast (by decide +kernel : u_at kl_269 58 = some (.iastore, [])) hW ha0 rfl (by decide) hc12_12 (fun h hW => ?_)
        have hW : HW (mkw c0 c1 c2 c3 c4 c5 c6 c7 c8 c9 c10 c11 c12_12 c13) d h := hW
        refine en_segs [(59, .aload_n 0, [])] (by decide +kernel) (y := (60, [some (.ref a0), some (.int x1), some (.int x2)], [.ref a0], h)) rfl ?_
        refine en_get (by decide +kernel : u_at kl_269 60 = some (.getfield 64, [12, 30])) hW ha0 (by decide) rfl ?_
        refine en_segs [(63, .aload_n 0, [])] (by decide +kernel) (y := (64, [some (.ref a0), some (.int x1), some (.int x2)], [.ref a0, .ref (aP d 12 30 a0)], h)) rfl ?_
        refine en_get (by decide +kernel : u_at kl_269 64 = some (.getfield 464, [12, 31])) hW ha0 (by decide) rfl ?_
        refine en_segs [(67, .iload_n 2, [])] (by decide +kernel) (y := (68, [some (.ref a0), some (.int x1), some (.int x2)], [.int x2, .int (cI c12_12 31 a0), .ref (aP d 12 30 a0)], h)) rfl ?_
        obtain ⟨c12_13, hc12_13, hF⟩ := ob_some hF
        refine en_iast (by decide +kernel : u_at kl_269 68 = some (.iastore, [])) hW ha0 rfl (by decide) hc12_13 (fun h hW => ?_)
        have hW : HW (mkw c0 c1 c2 c3 c4 c5 c6 c7 c8 c9 c10 c11 c12_13 c13) d h := hW
        refine en_segs [(69, .aload_n 0, []), (70, .dup, [])] (by decide +kernel) (y := (71, [some (.ref a0), some (.int x1), some (.int x2)], [.ref a0, .ref a0], h)) rfl ?_
        refine en_get (by decide +kernel : u_at kl_269 71 = some (.getfield 464, [12, 31])) hW ha0 (by decide) rfl ?_
        refine en_segs [(74, .iconst 1, []), (75, .iadd, [])] (by decide +kernel) (y := (76, [some (.ref a0), some (.int x1), some (.int x2)], [.int ((cI c12_13 31 a0) + 1), .ref a0], h)) rfl ?_
        obtain ⟨c12_14, hc12_14, hF⟩ := ob_some hF
        refine en_putI (by decide +kernel : u_at kl_269 76 = some (.putfield 464, [12, 31, 0])) hW ha0 rfl (by decide) rfl (fun h hW => ?_)
        have hW : HW (mkw c0 c1 c2 c3 c4 c5 c6 c7 c8 c9 c10 c11 c12_14 c13) d h := by rw [← Option.some.inj hc12_14]; exact hW
        obtain rfl := Option.some.inj hF
        exact j10 _ hW
def F_269 (c12 : Cl) (a0 : Nat) : Option Cl :=
  F_256 c12 a0 >>= fun r1 =>
  F_255 c12 a0 r1 >>= fun r2 =>
  some (sI r2 31 a0 0) >>= fun c12_3 =>
  G_269 a0 0 [0] [] [] c12_3
set_option maxRecDepth 100000 in
set_option maxHeartbeats 4000000 in
/-- HeadCountsModel.gathersGoings -/
theorem e_269 {D : Nat} {c0 c1 c2 c3 c4 c5 c6 c7 c8 c9 c10 c11 c12 c13 : Cl} {d : Ad} {h : UH} {a0 : Nat} {r : Cl} (hD : 5 ≤ D) (hW : HW (mkw c0 c1 c2 c3 c4 c5 c6 c7 c8 c9 c10 c11 c12 c13) d h) (ha0 : aK d a0 = (0, 12, 0)) (hF : F_269 c12 a0 = some r) : ∃ q, EX D 269 [.ref a0] h q ∧ q.1 = none ∧ HW (mkw c0 c1 c2 c3 c4 c5 c6 c7 c8 c9 c10 c11 r c13) d q.2 := by
  obtain ⟨D, rfl⟩ : ∃ E, D = E + 1 := ⟨D - 1, by omega⟩
  unfold F_269 at hF
  refine ex_in (kl := kl_269) (nL := 3) rfl (by decide +kernel) (Nat.le_of_ble_eq_true rfl) ?_
  obtain ⟨QQ, hQQ⟩ : ∃ QQ : UR → Prop, QQ = (fun q : UR => q.1 = none ∧ HW (mkw c0 c1 c2 c3 c4 c5 c6 c7 c8 c9 c10 c11 r c13) d q.2) := ⟨_, rfl⟩
  rw [← hQQ]
  have hQ : ∀ h' : UH, HW (mkw c0 c1 c2 c3 c4 c5 c6 c7 c8 c9 c10 c11 r c13) d h' → QQ (none, h') := fun h' p => by rw [hQQ]; exact ⟨rfl, p⟩
  clear hQQ
  show Ends (EX D) (u_at kl_269) (0, [some (.ref a0), none, none], [], h) QQ
  refine en_segs [(0, .aload_n 0, []), (1, .aload_n 0, [])] (by decide +kernel) (y := (2, [some (.ref a0), none, none], [.ref a0, .ref a0], h)) rfl ?_
  obtain ⟨r1, hr1, hF⟩ := ob_some hF
  refine en_vi (r := [.ref a0]) (by decide +kernel : u_at kl_269 2 = some (.invokevirtual 446, [256, 0, 12])) hW ha0 rfl rfl (Nat.le_of_ble_eq_true rfl) (e_256 (D := D) (by omega) hW ha0 hr1) (fun h' q => ?_)
  subst q
  obtain ⟨r2, hr2, hF⟩ := ob_some hF
  refine en_vv (r := []) (by decide +kernel : u_at kl_269 5 = some (.invokevirtual 434, [255, 1, 12])) hW ha0 rfl rfl (Nat.le_of_ble_eq_true rfl) (e_255 (D := D) (by omega) hW ha0 hr2) (fun h hW => ?_)
  have hW : HW (mkw c0 c1 c2 c3 c4 c5 c6 c7 c8 c9 c10 c11 r2 c13) d h := hW
  refine en_segs [(8, .aload_n 0, []), (9, .iconst 0, [])] (by decide +kernel) (y := (10, [some (.ref a0), none, none], [.int 0, .ref a0], h)) rfl ?_
  obtain ⟨c12_3, hc12_3, hF⟩ := ob_some hF
  refine en_putI (by decide +kernel : u_at kl_269 10 = some (.putfield 464, [12, 31, 0])) hW ha0 rfl (by decide) rfl (fun h hW => ?_)
  have hW : HW (mkw c0 c1 c2 c3 c4 c5 c6 c7 c8 c9 c10 c11 c12_3 c13) d h := by rw [← Option.some.inj hc12_3]; exact hW
  refine en_segs [(13, .iconst 0, []), (14, .istore_n 1, [])] (by decide +kernel) (y := (15, [some (.ref a0), some (.int 0), none], [], h)) rfl ?_
  exact (g_269 (D := D) hD ha0 _ _ _ _ _ _ hF).1 _ rfl rfl rfl rfl  _ hW _ hQ
def F_270 (c12 : Cl) (a0 : Nat) (p1 : Int32) (p2 : Int32) : Option Int32 :=
  ald (cA c12 29 a0) 30 p1 >>= fun v1 =>
  F_223 c12 a0 v1 1 >>= fun r2 =>
  ald (cA c12 30 a0) 30 p1 >>= fun v3 =>
  ((if p2 = v3 then
  some r2
  else
  ald (cA c12 29 a0) 30 p1 >>= fun v7 =>
  F_223 c12 a0 v7 0 >>= fun r8 =>
  if p2 = r8 then
  some (-r2)
  else
  some 0) : Option (Int32)) >>= fun (t4 : Int32) =>
  some t4
set_option maxRecDepth 100000 in
set_option maxHeartbeats 4000000 in
/-- HeadCountsModel.change -/
theorem e_270 {D : Nat} {c0 c1 c2 c3 c4 c5 c6 c7 c8 c9 c10 c11 c12 c13 : Cl} {d : Ad} {h : UH} {a0 : Nat} {p1 : Int32} {p2 : Int32} {r : Int32} (hD : 2 ≤ D) (hW : HW (mkw c0 c1 c2 c3 c4 c5 c6 c7 c8 c9 c10 c11 c12 c13) d h) (ha0 : aK d a0 = (0, 12, 0)) (hF : F_270 c12 a0 p1 p2 = some r) : ∃ q, EX D 270 [.ref a0, .int p1, .int p2] h q ∧ q.1 = some (.int r) ∧ h = q.2 := by
  obtain ⟨D, rfl⟩ : ∃ E, D = E + 1 := ⟨D - 1, by omega⟩
  unfold F_270 at hF
  refine ex_in (kl := kl_270) (nL := 4) rfl (by decide +kernel) (Nat.le_of_ble_eq_true rfl) ?_
  obtain ⟨QQ, hQQ⟩ : ∃ QQ : UR → Prop, QQ = (fun q : UR => q.1 = some (.int r) ∧ h = q.2) := ⟨_, rfl⟩
  rw [← hQQ]
  have hQ : QQ (some (.int r), h) := by rw [hQQ]; exact ⟨rfl, rfl⟩
  clear hQQ
  show Ends (EX D) (u_at kl_270) (0, [some (.ref a0), some (.int p1), some (.int p2), none], [], h) QQ
  refine en_segs [(0, .aload_n 0, []), (1, .aload_n 0, [])] (by decide +kernel) (y := (2, [some (.ref a0), some (.int p1), some (.int p2), none], [.ref a0, .ref a0], h)) rfl ?_
  refine en_get (by decide +kernel : u_at kl_270 2 = some (.getfield 61, [12, 29])) hW ha0 (by decide) rfl ?_
  refine en_segs [(5, .iload_n 1, [])] (by decide +kernel) (y := (6, [some (.ref a0), some (.int p1), some (.int p2), none], [.int p1, .ref (aP d 12 29 a0), .ref a0], h)) rfl ?_
  obtain ⟨v1, hv1, hF⟩ := ob_some hF
  refine en_iald (by decide +kernel : u_at kl_270 6 = some (.iaload, [])) hW ha0 rfl (by decide) hv1 ?_
  refine en_segs [(7, .iconst 1, [])] (by decide +kernel) (y := (8, [some (.ref a0), some (.int p1), some (.int p2), none], [.int 1, .int v1, .ref a0], h)) rfl ?_
  obtain ⟨r2, hr2, hF⟩ := ob_some hF
  refine en_vi (r := []) (by decide +kernel : u_at kl_270 8 = some (.invokevirtual 343, [223, 2, 12])) hW ha0 rfl rfl (Nat.le_of_ble_eq_true rfl) (e_223 (D := D) (by omega) hW ha0 hr2) (fun h' q => ?_)
  subst q
  refine en_segs [(11, .istore_n 3, []), (12, .iload_n 2, []), (13, .aload_n 0, [])] (by decide +kernel) (y := (14, [some (.ref a0), some (.int p1), some (.int p2), some (.int r2)], [.ref a0, .int p2], h)) rfl ?_
  refine en_get (by decide +kernel : u_at kl_270 14 = some (.getfield 64, [12, 30])) hW ha0 (by decide) rfl ?_
  refine en_segs [(17, .iload_n 1, [])] (by decide +kernel) (y := (18, [some (.ref a0), some (.int p1), some (.int p2), some (.int r2)], [.int p1, .ref (aP d 12 30 a0), .int p2], h)) rfl ?_
  obtain ⟨v3, hv3, hF⟩ := ob_some hF
  refine en_iald (by decide +kernel : u_at kl_270 18 = some (.iaload, [])) hW ha0 rfl (by decide) hv3 ?_
  obtain ⟨t4, hX, hK⟩ := ob_some hF
  have j5 : Ends (EX D) (u_at kl_270) (47, [some (.ref a0), some (.int p1), some (.int p2), some (.int r2)], [.int t4], h) QQ := by
    have hF := hK
    obtain rfl := Option.some.inj hF
    exact en_ret (by decide +kernel : u_at kl_270 47 = some (.ireturn, [0])) rfl (hQ)
  have hF := hX
  refine en_ic_ne (by decide +kernel : u_at kl_270 19 = some (.if_icmp .ne 7, [26])) (fun b6 => ?_) (fun b6 => ?_)
  · replace hF := i_pos b6 hF
    refine en_segs [(22, .iload_n 3, []), (23, .goto 24, [47])] (by decide +kernel) (y := (47, [some (.ref a0), some (.int p1), some (.int p2), some (.int r2)], [.int r2], h)) rfl ?_
    obtain rfl := Option.some.inj hF
    exact j5
  · replace hF := i_neg b6 hF
    refine en_segs [(26, .iload_n 2, []), (27, .aload_n 0, []), (28, .aload_n 0, [])] (by decide +kernel) (y := (29, [some (.ref a0), some (.int p1), some (.int p2), some (.int r2)], [.ref a0, .ref a0, .int p2], h)) rfl ?_
    refine en_get (by decide +kernel : u_at kl_270 29 = some (.getfield 61, [12, 29])) hW ha0 (by decide) rfl ?_
    refine en_segs [(32, .iload_n 1, [])] (by decide +kernel) (y := (33, [some (.ref a0), some (.int p1), some (.int p2), some (.int r2)], [.int p1, .ref (aP d 12 29 a0), .ref a0, .int p2], h)) rfl ?_
    obtain ⟨v7, hv7, hF⟩ := ob_some hF
    refine en_iald (by decide +kernel : u_at kl_270 33 = some (.iaload, [])) hW ha0 rfl (by decide) hv7 ?_
    refine en_segs [(34, .iconst 0, [])] (by decide +kernel) (y := (35, [some (.ref a0), some (.int p1), some (.int p2), some (.int r2)], [.int 0, .int v7, .ref a0, .int p2], h)) rfl ?_
    obtain ⟨r8, hr8, hF⟩ := ob_some hF
    refine en_vi (r := [.int p2]) (by decide +kernel : u_at kl_270 35 = some (.invokevirtual 343, [223, 2, 12])) hW ha0 rfl rfl (Nat.le_of_ble_eq_true rfl) (e_223 (D := D) (by omega) hW ha0 hr8) (fun h' q => ?_)
    subst q
    refine en_ic_ne (by decide +kernel : u_at kl_270 38 = some (.if_icmp .ne 8, [46])) (fun b9 => ?_) (fun b9 => ?_)
    · replace hF := i_pos b9 hF
      refine en_segs [(41, .iload_n 3, []), (42, .ineg, []), (43, .goto 4, [47])] (by decide +kernel) (y := (47, [some (.ref a0), some (.int p1), some (.int p2), some (.int r2)], [.int (-r2)], h)) rfl ?_
      obtain rfl := Option.some.inj hF
      exact j5
    · replace hF := i_neg b9 hF
      refine en_segs [(46, .iconst 0, [])] (by decide +kernel) (y := (47, [some (.ref a0), some (.int p1), some (.int p2), some (.int r2)], [.int 0], h)) rfl ?_
      obtain rfl := Option.some.inj hF
      exact j5
def G_271 (c12 : Cl) (a0 : Nat) (lab : Nat) (xs : List Int32) (ys : List Int64) (zs : List Nat) : Option Int32 := match lab, xs, ys, zs with
  | 0, [x1, x2, x3, x4], [], [] =>
    ald (cA c12 20 a0) 221 0 >>= fun v1 =>
    if v1 ≤ x4 then
    some 1
    else
    F_171 x3 x4 >>= fun r3 =>
    if r3 = 0 then
    G_271 c12 a0 0 [x1, x2, x3, x4 + 1] [] []
    else
    F_270 c12 a0 x1 x4 >>= fun r5 =>
    F_270 c12 a0 x2 x4 >>= fun r6 =>
    if r5 = r6 then
    G_271 c12 a0 0 [x1, x2, x3, x4 + 1] [] []
    else
    some 0
  | _, _, _, _ => none
partial_fixpoint
set_option maxRecDepth 100000 in
set_option maxHeartbeats 4000000 in
theorem g_271 {D : Nat} (hD : 3 ≤ D + 1) {c0 c1 c2 c3 c4 c5 c6 c7 c8 c9 c10 c11 c12 c13 : Cl} {d : Ad} {a0 : Nat} (ha0 : aK d a0 = (0, 12, 0)) : ∀ (lab : Nat) (xs : List Int32) (ys : List Int64) (zs : List Nat) (r : Int32), G_271 c12 a0 lab xs ys zs = some r →
    (∀ (x1 : Int32) (x2 : Int32) (x3 : Int32) (x4 : Int32), lab = 0 → xs = [x1, x2, x3, x4] → ys = [] → zs = [] → ∀ h : UH, HW (mkw c0 c1 c2 c3 c4 c5 c6 c7 c8 c9 c10 c11 c12 c13) d h → ∀ QQ : UR → Prop, QQ (some (.int r), h) → Ends (EX D) (u_at kl_271) (3, [some (.ref a0), some (.int x1), some (.int x2), some (.int x3), some (.int x4)], [], h) QQ) := by
  refine G_271.partial_correctness _ _ (motive := fun lab xs ys zs r =>
    (∀ (x1 : Int32) (x2 : Int32) (x3 : Int32) (x4 : Int32), lab = 0 → xs = [x1, x2, x3, x4] → ys = [] → zs = [] → ∀ h : UH, HW (mkw c0 c1 c2 c3 c4 c5 c6 c7 c8 c9 c10 c11 c12 c13) d h → ∀ QQ : UR → Prop, QQ (some (.int r), h) → Ends (EX D) (u_at kl_271) (3, [some (.ref a0), some (.int x1), some (.int x2), some (.int x3), some (.int x4)], [], h) QQ)) ?_
  intro G ih lab xs ys zs r hF
  · intro x1 x2 x3 x4 e1 e2 e3 e4 h hW QQ hQ
    subst e1 e2 e3 e4
    refine en_segs [(3, .iload 4, []), (5, .aload_n 0, [])] (by decide +kernel) (y := (6, [some (.ref a0), some (.int x1), some (.int x2), some (.int x3), some (.int x4)], [.ref a0, .int x4], h)) rfl ?_
    refine en_get (by decide +kernel : u_at kl_271 6 = some (.getfield 39, [12, 20])) hW ha0 (by decide) rfl ?_
    refine en_segs [(9, .iconst 0, [])] (by decide +kernel) (y := (10, [some (.ref a0), some (.int x1), some (.int x2), some (.int x3), some (.int x4)], [.int 0, .ref (aP d 12 20 a0), .int x4], h)) rfl ?_
    obtain ⟨v1, hv1, hF⟩ := ob_some hF
    refine en_iald (by decide +kernel : u_at kl_271 10 = some (.iaload, [])) hW ha0 rfl (by decide) hv1 ?_
    refine en_ic_ge (by decide +kernel : u_at kl_271 11 = some (.if_icmp .ge 37, [48])) (fun b2 => ?_) (fun b2 => ?_)
    · replace hF := i_pos b2 hF
      refine en_segs [(48, .iconst 1, [])] (by decide +kernel) (y := (49, [some (.ref a0), some (.int x1), some (.int x2), some (.int x3), some (.int x4)], [.int 1], h)) rfl ?_
      obtain rfl := Option.some.inj hF
      exact en_ret (by decide +kernel : u_at kl_271 49 = some (.ireturn, [1])) rfl (hQ)
    · replace hF := i_neg b2 hF
      refine en_segs [(14, .iload_n 3, []), (15, .iload 4, [])] (by decide +kernel) (y := (17, [some (.ref a0), some (.int x1), some (.int x2), some (.int x3), some (.int x4)], [.int x4, .int x3], h)) rfl ?_
      obtain ⟨r3, hr3, hF⟩ := ob_some hF
      refine en_si (r := []) (by decide +kernel : u_at kl_271 17 = some (.invokestatic 361, [171, 2])) rfl rfl (Nat.le_of_ble_eq_true rfl) (e_171 (D := D) (by omega) hW hr3) (fun h' q => ?_)
      subst q
      refine en_if_eq (by decide +kernel : u_at kl_271 20 = some (.ifCond .eq 22, [42])) (fun b4 => ?_) (fun b4 => ?_)
      · replace hF := i_pos b4 hF
        refine en_segs [(42, .iinc 4 1, []), (45, .goto (-42), [3])] (by decide +kernel) (y := (3, [some (.ref a0), some (.int x1), some (.int x2), some (.int x3), some (.int (x4 + 1))], [], h)) rfl ?_
        exact (ih _ _ _ _ _ hF) _ _ _ _ rfl rfl rfl rfl  _ hW _ hQ
      · replace hF := i_neg b4 hF
        refine en_segs [(23, .aload_n 0, []), (24, .iload_n 1, []), (25, .iload 4, [])] (by decide +kernel) (y := (27, [some (.ref a0), some (.int x1), some (.int x2), some (.int x3), some (.int x4)], [.int x4, .int x1, .ref a0], h)) rfl ?_
        obtain ⟨r5, hr5, hF⟩ := ob_some hF
        refine en_vi (r := []) (by decide +kernel : u_at kl_271 27 = some (.invokevirtual 467, [270, 2, 12])) hW ha0 rfl rfl (Nat.le_of_ble_eq_true rfl) (e_270 (D := D) (by omega) hW ha0 hr5) (fun h' q => ?_)
        subst q
        refine en_segs [(30, .aload_n 0, []), (31, .iload_n 2, []), (32, .iload 4, [])] (by decide +kernel) (y := (34, [some (.ref a0), some (.int x1), some (.int x2), some (.int x3), some (.int x4)], [.int x4, .int x2, .ref a0, .int r5], h)) rfl ?_
        obtain ⟨r6, hr6, hF⟩ := ob_some hF
        refine en_vi (r := [.int r5]) (by decide +kernel : u_at kl_271 34 = some (.invokevirtual 467, [270, 2, 12])) hW ha0 rfl rfl (Nat.le_of_ble_eq_true rfl) (e_270 (D := D) (by omega) hW ha0 hr6) (fun h' q => ?_)
        subst q
        refine en_ic_eq (by decide +kernel : u_at kl_271 37 = some (.if_icmp .eq 5, [42])) (fun b7 => ?_) (fun b7 => ?_)
        · replace hF := i_pos b7 hF
          refine en_segs [(42, .iinc 4 1, []), (45, .goto (-42), [3])] (by decide +kernel) (y := (3, [some (.ref a0), some (.int x1), some (.int x2), some (.int x3), some (.int (x4 + 1))], [], h)) rfl ?_
          exact (ih _ _ _ _ _ hF) _ _ _ _ rfl rfl rfl rfl  _ hW _ hQ
        · replace hF := i_neg b7 hF
          refine en_segs [(40, .iconst 0, [])] (by decide +kernel) (y := (41, [some (.ref a0), some (.int x1), some (.int x2), some (.int x3), some (.int x4)], [.int 0], h)) rfl ?_
          obtain rfl := Option.some.inj hF
          exact en_ret (by decide +kernel : u_at kl_271 41 = some (.ireturn, [1])) rfl (hQ)
def F_271 (c12 : Cl) (a0 : Nat) (p1 : Int32) (p2 : Int32) (p3 : Int32) : Option Int32 :=
  G_271 c12 a0 0 [p1, p2, p3, 0] [] []
set_option maxRecDepth 100000 in
set_option maxHeartbeats 4000000 in
/-- HeadCountsModel.changesAlike -/
theorem e_271 {D : Nat} {c0 c1 c2 c3 c4 c5 c6 c7 c8 c9 c10 c11 c12 c13 : Cl} {d : Ad} {h : UH} {a0 : Nat} {p1 : Int32} {p2 : Int32} {p3 : Int32} {r : Int32} (hD : 3 ≤ D) (hW : HW (mkw c0 c1 c2 c3 c4 c5 c6 c7 c8 c9 c10 c11 c12 c13) d h) (ha0 : aK d a0 = (0, 12, 0)) (hF : F_271 c12 a0 p1 p2 p3 = some r) : ∃ q, EX D 271 [.ref a0, .int p1, .int p2, .int p3] h q ∧ q.1 = some (.int r) ∧ h = q.2 := by
  obtain ⟨D, rfl⟩ : ∃ E, D = E + 1 := ⟨D - 1, by omega⟩
  unfold F_271 at hF
  refine ex_in (kl := kl_271) (nL := 5) rfl (by decide +kernel) (Nat.le_of_ble_eq_true rfl) ?_
  obtain ⟨QQ, hQQ⟩ : ∃ QQ : UR → Prop, QQ = (fun q : UR => q.1 = some (.int r) ∧ h = q.2) := ⟨_, rfl⟩
  rw [← hQQ]
  have hQ : QQ (some (.int r), h) := by rw [hQQ]; exact ⟨rfl, rfl⟩
  clear hQQ
  show Ends (EX D) (u_at kl_271) (0, [some (.ref a0), some (.int p1), some (.int p2), some (.int p3), none], [], h) QQ
  refine en_segs [(0, .iconst 0, []), (1, .istore 4, [])] (by decide +kernel) (y := (3, [some (.ref a0), some (.int p1), some (.int p2), some (.int p3), some (.int 0)], [], h)) rfl ?_
  exact (g_271 (D := D) hD ha0 _ _ _ _ _ hF) _ _ _ _ rfl rfl rfl rfl  _ hW _ hQ
def G_272 (c12 : Cl) (a0 : Nat) (lab : Nat) (xs : List Int32) (ys : List Int64) (zs : List Nat) : Option Int32 := match lab, xs, ys, zs with
  | 0, [x1, x2], [], [] =>
    if (cI c12 31 a0) ≤ x2 then
    some 1
    else
    ald (cA c12 29 a0) 30 x2 >>= fun v2 =>
    F_223 c12 a0 v2 0 >>= fun r3 =>
    F_171 x1 r3 >>= fun r4 =>
    if r4 = 0 then
    ald (cA c12 30 a0) 30 x2 >>= fun v6 =>
    F_171 x1 v6 >>= fun r7 =>
    if r7 = 0 then
    some 0
    else
    G_272 c12 a0 1 [x1, x2, r3, x2 + 1] [] []
    else
    G_272 c12 a0 1 [x1, x2, r3, x2 + 1] [] []
  | 1, [x1, x2, x3, x4], [], [] =>
    if (cI c12 31 a0) ≤ x4 then
    G_272 c12 a0 0 [x1, x2 + 1] [] []
    else
    ald (cA c12 29 a0) 30 x4 >>= fun v10 =>
    F_223 c12 a0 v10 0 >>= fun r11 =>
    ((if r11 = x3 then
    ald (cA c12 30 a0) 30 x4 >>= fun v18 =>
    ald (cA c12 30 a0) 30 x2 >>= fun v19 =>
    if v18 = v19 then
    some 1
    else
    some 0
    else
    some 0) : Option (Int32)) >>= fun (t12 : Int32) =>
    if t12 = 0 then
    F_271 c12 a0 x2 x4 x1 >>= fun r15 =>
    if r15 = 0 then
    G_272 c12 a0 1 [x1, x2, x3, x4 + 1] [] []
    else
    some 0
    else
    G_272 c12 a0 1 [x1, x2, x3, x4 + 1] [] []
  | _, _, _, _ => none
partial_fixpoint
set_option maxRecDepth 100000 in
set_option maxHeartbeats 4000000 in
theorem g_272 {D : Nat} (hD : 4 ≤ D + 1) {c0 c1 c2 c3 c4 c5 c6 c7 c8 c9 c10 c11 c12 c13 : Cl} {d : Ad} {a0 : Nat} (ha0 : aK d a0 = (0, 12, 0)) : ∀ (lab : Nat) (xs : List Int32) (ys : List Int64) (zs : List Nat) (r : Int32), G_272 c12 a0 lab xs ys zs = some r →
    (∀ (x1 : Int32) (x2 : Int32), lab = 0 → xs = [x1, x2] → ys = [] → zs = [] → ∀ h : UH, HW (mkw c0 c1 c2 c3 c4 c5 c6 c7 c8 c9 c10 c11 c12 c13) d h → ∀ QQ : UR → Prop, QQ (some (.int r), h) → Ends (EX D) (u_at kl_272) (2, [some (.ref a0), some (.int x1), some (.int x2), none, none, none], [], h) QQ) ∧
    (∀ (x1 : Int32) (x2 : Int32) (x3 : Int32) (x4 : Int32), lab = 1 → xs = [x1, x2, x3, x4] → ys = [] → zs = [] → ∀ h : UH, HW (mkw c0 c1 c2 c3 c4 c5 c6 c7 c8 c9 c10 c11 c12 c13) d h → ∀ QQ : UR → Prop, QQ (some (.int r), h) → Ends (EX D) (u_at kl_272) (50, [some (.ref a0), some (.int x1), some (.int x2), some (.int x3), some (.int x4), none], [], h) QQ) := by
  refine G_272.partial_correctness _ _ (motive := fun lab xs ys zs r =>
    (∀ (x1 : Int32) (x2 : Int32), lab = 0 → xs = [x1, x2] → ys = [] → zs = [] → ∀ h : UH, HW (mkw c0 c1 c2 c3 c4 c5 c6 c7 c8 c9 c10 c11 c12 c13) d h → ∀ QQ : UR → Prop, QQ (some (.int r), h) → Ends (EX D) (u_at kl_272) (2, [some (.ref a0), some (.int x1), some (.int x2), none, none, none], [], h) QQ) ∧
    (∀ (x1 : Int32) (x2 : Int32) (x3 : Int32) (x4 : Int32), lab = 1 → xs = [x1, x2, x3, x4] → ys = [] → zs = [] → ∀ h : UH, HW (mkw c0 c1 c2 c3 c4 c5 c6 c7 c8 c9 c10 c11 c12 c13) d h → ∀ QQ : UR → Prop, QQ (some (.int r), h) → Ends (EX D) (u_at kl_272) (50, [some (.ref a0), some (.int x1), some (.int x2), some (.int x3), some (.int x4), none], [], h) QQ)) ?_
  intro G ih lab xs ys zs r hF
  refine ⟨?_, ?_⟩
  · intro x1 x2 e1 e2 e3 e4 h hW QQ hQ
    subst e1 e2 e3 e4
    refine en_segs [(2, .iload_n 2, []), (3, .aload_n 0, [])] (by decide +kernel) (y := (4, [some (.ref a0), some (.int x1), some (.int x2), none, none, none], [.ref a0, .int x2], h)) rfl ?_
    refine en_get (by decide +kernel : u_at kl_272 4 = some (.getfield 464, [12, 31])) hW ha0 (by decide) rfl ?_
    refine en_ic_ge (by decide +kernel : u_at kl_272 7 = some (.if_icmp .ge 121, [128])) (fun b1 => ?_) (fun b1 => ?_)
    · replace hF := i_pos b1 hF
      refine en_segs [(128, .iconst 1, [])] (by decide +kernel) (y := (129, [some (.ref a0), some (.int x1), some (.int x2), none, none, none], [.int 1], h)) rfl ?_
      obtain rfl := Option.some.inj hF
      exact en_ret (by decide +kernel : u_at kl_272 129 = some (.ireturn, [1])) rfl (hQ)
    · replace hF := i_neg b1 hF
      refine en_segs [(10, .aload_n 0, []), (11, .aload_n 0, [])] (by decide +kernel) (y := (12, [some (.ref a0), some (.int x1), some (.int x2), none, none, none], [.ref a0, .ref a0], h)) rfl ?_
      refine en_get (by decide +kernel : u_at kl_272 12 = some (.getfield 61, [12, 29])) hW ha0 (by decide) rfl ?_
      refine en_segs [(15, .iload_n 2, [])] (by decide +kernel) (y := (16, [some (.ref a0), some (.int x1), some (.int x2), none, none, none], [.int x2, .ref (aP d 12 29 a0), .ref a0], h)) rfl ?_
      obtain ⟨v2, hv2, hF⟩ := ob_some hF
      refine en_iald (by decide +kernel : u_at kl_272 16 = some (.iaload, [])) hW ha0 rfl (by decide) hv2 ?_
      refine en_segs [(17, .iconst 0, [])] (by decide +kernel) (y := (18, [some (.ref a0), some (.int x1), some (.int x2), none, none, none], [.int 0, .int v2, .ref a0], h)) rfl ?_
      obtain ⟨r3, hr3, hF⟩ := ob_some hF
      refine en_vi (r := []) (by decide +kernel : u_at kl_272 18 = some (.invokevirtual 343, [223, 2, 12])) hW ha0 rfl rfl (Nat.le_of_ble_eq_true rfl) (e_223 (D := D) (by omega) hW ha0 hr3) (fun h' q => ?_)
      subst q
      refine en_segs [(21, .istore_n 3, []), (22, .iload_n 1, []), (23, .iload_n 3, [])] (by decide +kernel) (y := (24, [some (.ref a0), some (.int x1), some (.int x2), some (.int r3), none, none], [.int r3, .int x1], h)) rfl ?_
      obtain ⟨r4, hr4, hF⟩ := ob_some hF
      refine en_si (r := []) (by decide +kernel : u_at kl_272 24 = some (.invokestatic 361, [171, 2])) rfl rfl (Nat.le_of_ble_eq_true rfl) (e_171 (D := D) (by omega) hW hr4) (fun h' q => ?_)
      subst q
      refine en_if_ne (by decide +kernel : u_at kl_272 27 = some (.ifCond .ne 18, [45])) (fun b5 => ?_) (fun b5 => ?_)
      · replace hF := i_pos b5 hF
        refine en_segs [(30, .iload_n 1, []), (31, .aload_n 0, [])] (by decide +kernel) (y := (32, [some (.ref a0), some (.int x1), some (.int x2), some (.int r3), none, none], [.ref a0, .int x1], h)) rfl ?_
        refine en_get (by decide +kernel : u_at kl_272 32 = some (.getfield 64, [12, 30])) hW ha0 (by decide) rfl ?_
        refine en_segs [(35, .iload_n 2, [])] (by decide +kernel) (y := (36, [some (.ref a0), some (.int x1), some (.int x2), some (.int r3), none, none], [.int x2, .ref (aP d 12 30 a0), .int x1], h)) rfl ?_
        obtain ⟨v6, hv6, hF⟩ := ob_some hF
        refine en_iald (by decide +kernel : u_at kl_272 36 = some (.iaload, [])) hW ha0 rfl (by decide) hv6 ?_
        obtain ⟨r7, hr7, hF⟩ := ob_some hF
        refine en_si (r := []) (by decide +kernel : u_at kl_272 37 = some (.invokestatic 361, [171, 2])) rfl rfl (Nat.le_of_ble_eq_true rfl) (e_171 (D := D) (by omega) hW hr7) (fun h' q => ?_)
        subst q
        refine en_if_ne (by decide +kernel : u_at kl_272 40 = some (.ifCond .ne 5, [45])) (fun b8 => ?_) (fun b8 => ?_)
        · replace hF := i_pos b8 hF
          refine en_segs [(43, .iconst 0, [])] (by decide +kernel) (y := (44, [some (.ref a0), some (.int x1), some (.int x2), some (.int r3), none, none], [.int 0], h)) rfl ?_
          obtain rfl := Option.some.inj hF
          exact en_ret (by decide +kernel : u_at kl_272 44 = some (.ireturn, [1])) rfl (hQ)
        · replace hF := i_neg b8 hF
          refine en_segs [(45, .iload_n 2, []), (46, .iconst 1, []), (47, .iadd, []), (48, .istore 4, [])] (by decide +kernel) (y := (50, [some (.ref a0), some (.int x1), some (.int x2), some (.int r3), some (.int (x2 + 1)), none], [], h)) rfl ?_
          exact (ih _ _ _ _ _ hF).2 _ _ _ _ rfl rfl rfl rfl  _ hW _ hQ
      · replace hF := i_neg b5 hF
        refine en_segs [(45, .iload_n 2, []), (46, .iconst 1, []), (47, .iadd, []), (48, .istore 4, [])] (by decide +kernel) (y := (50, [some (.ref a0), some (.int x1), some (.int x2), some (.int r3), some (.int (x2 + 1)), none], [], h)) rfl ?_
        exact (ih _ _ _ _ _ hF).2 _ _ _ _ rfl rfl rfl rfl  _ hW _ hQ
  · intro x1 x2 x3 x4 e1 e2 e3 e4 h hW QQ hQ
    subst e1 e2 e3 e4
    refine en_segs [(50, .iload 4, []), (52, .aload_n 0, [])] (by decide +kernel) (y := (53, [some (.ref a0), some (.int x1), some (.int x2), some (.int x3), some (.int x4), none], [.ref a0, .int x4], h)) rfl ?_
    refine en_get (by decide +kernel : u_at kl_272 53 = some (.getfield 464, [12, 31])) hW ha0 (by decide) rfl ?_
    refine en_ic_ge (by decide +kernel : u_at kl_272 56 = some (.if_icmp .ge 66, [122])) (fun b9 => ?_) (fun b9 => ?_)
    · replace hF := i_pos b9 hF
      refine en_segs [(122, .iinc 2 1, []), (125, .goto (-123), [2])] (by decide +kernel) (y := (2, [some (.ref a0), some (.int x1), some (.int (x2 + 1)), some (.int x3), some (.int x4), none], [], h)) rfl ?_
      refine en_fg (fg_k (fg_k (fg_k (fg_d (fg_d (fg_k fg_0)))))) ?_
      exact (ih _ _ _ _ _ hF).1 _ _ rfl rfl rfl rfl  _ hW _ hQ
    · replace hF := i_neg b9 hF
      refine en_segs [(59, .aload_n 0, []), (60, .aload_n 0, [])] (by decide +kernel) (y := (61, [some (.ref a0), some (.int x1), some (.int x2), some (.int x3), some (.int x4), none], [.ref a0, .ref a0], h)) rfl ?_
      refine en_get (by decide +kernel : u_at kl_272 61 = some (.getfield 61, [12, 29])) hW ha0 (by decide) rfl ?_
      refine en_segs [(64, .iload 4, [])] (by decide +kernel) (y := (66, [some (.ref a0), some (.int x1), some (.int x2), some (.int x3), some (.int x4), none], [.int x4, .ref (aP d 12 29 a0), .ref a0], h)) rfl ?_
      obtain ⟨v10, hv10, hF⟩ := ob_some hF
      refine en_iald (by decide +kernel : u_at kl_272 66 = some (.iaload, [])) hW ha0 rfl (by decide) hv10 ?_
      refine en_segs [(67, .iconst 0, [])] (by decide +kernel) (y := (68, [some (.ref a0), some (.int x1), some (.int x2), some (.int x3), some (.int x4), none], [.int 0, .int v10, .ref a0], h)) rfl ?_
      obtain ⟨r11, hr11, hF⟩ := ob_some hF
      refine en_vi (r := []) (by decide +kernel : u_at kl_272 68 = some (.invokevirtual 343, [223, 2, 12])) hW ha0 rfl rfl (Nat.le_of_ble_eq_true rfl) (e_223 (D := D) (by omega) hW ha0 hr11) (fun h' q => ?_)
      subst q
      refine en_segs [(71, .iload_n 3, [])] (by decide +kernel) (y := (72, [some (.ref a0), some (.int x1), some (.int x2), some (.int x3), some (.int x4), none], [.int x3, .int r11], h)) rfl ?_
      obtain ⟨t12, hX, hK⟩ := ob_some hF
      have j13 : Ends (EX D) (u_at kl_272) (96, [some (.ref a0), some (.int x1), some (.int x2), some (.int x3), some (.int x4), none], [.int t12], h) QQ := by
        have hF := hK
        refine en_segs [(96, .istore 5, []), (98, .iload 5, [])] (by decide +kernel) (y := (100, [some (.ref a0), some (.int x1), some (.int x2), some (.int x3), some (.int x4), some (.int t12)], [.int t12], h)) rfl ?_
        refine en_if_ne (by decide +kernel : u_at kl_272 100 = some (.ifCond .ne 16, [116])) (fun b14 => ?_) (fun b14 => ?_)
        · replace hF := i_pos b14 hF
          refine en_segs [(103, .aload_n 0, []), (104, .iload_n 2, []), (105, .iload 4, []), (107, .iload_n 1, [])] (by decide +kernel) (y := (108, [some (.ref a0), some (.int x1), some (.int x2), some (.int x3), some (.int x4), some (.int t12)], [.int x1, .int x4, .int x2, .ref a0], h)) rfl ?_
          obtain ⟨r15, hr15, hF⟩ := ob_some hF
          refine en_vi (r := []) (by decide +kernel : u_at kl_272 108 = some (.invokevirtual 470, [271, 3, 12])) hW ha0 rfl rfl (Nat.le_of_ble_eq_true rfl) (e_271 (D := D) (by omega) hW ha0 hr15) (fun h' q => ?_)
          subst q
          refine en_if_eq (by decide +kernel : u_at kl_272 111 = some (.ifCond .eq 5, [116])) (fun b16 => ?_) (fun b16 => ?_)
          · replace hF := i_pos b16 hF
            refine en_segs [(116, .iinc 4 1, []), (119, .goto (-69), [50])] (by decide +kernel) (y := (50, [some (.ref a0), some (.int x1), some (.int x2), some (.int x3), some (.int (x4 + 1)), some (.int t12)], [], h)) rfl ?_
            refine en_fg (fg_k (fg_k (fg_k (fg_k (fg_k (fg_d fg_0)))))) ?_
            exact (ih _ _ _ _ _ hF).2 _ _ _ _ rfl rfl rfl rfl  _ hW _ hQ
          · replace hF := i_neg b16 hF
            refine en_segs [(114, .iconst 0, [])] (by decide +kernel) (y := (115, [some (.ref a0), some (.int x1), some (.int x2), some (.int x3), some (.int x4), some (.int t12)], [.int 0], h)) rfl ?_
            obtain rfl := Option.some.inj hF
            exact en_ret (by decide +kernel : u_at kl_272 115 = some (.ireturn, [1])) rfl (hQ)
        · replace hF := i_neg b14 hF
          refine en_segs [(116, .iinc 4 1, []), (119, .goto (-69), [50])] (by decide +kernel) (y := (50, [some (.ref a0), some (.int x1), some (.int x2), some (.int x3), some (.int (x4 + 1)), some (.int t12)], [], h)) rfl ?_
          refine en_fg (fg_k (fg_k (fg_k (fg_k (fg_k (fg_d fg_0)))))) ?_
          exact (ih _ _ _ _ _ hF).2 _ _ _ _ rfl rfl rfl rfl  _ hW _ hQ
      have hF := hX
      refine en_ic_ne (by decide +kernel : u_at kl_272 72 = some (.if_icmp .ne 23, [95])) (fun b17 => ?_) (fun b17 => ?_)
      · replace hF := i_pos b17 hF
        refine en_segs [(75, .aload_n 0, [])] (by decide +kernel) (y := (76, [some (.ref a0), some (.int x1), some (.int x2), some (.int x3), some (.int x4), none], [.ref a0], h)) rfl ?_
        refine en_get (by decide +kernel : u_at kl_272 76 = some (.getfield 64, [12, 30])) hW ha0 (by decide) rfl ?_
        refine en_segs [(79, .iload 4, [])] (by decide +kernel) (y := (81, [some (.ref a0), some (.int x1), some (.int x2), some (.int x3), some (.int x4), none], [.int x4, .ref (aP d 12 30 a0)], h)) rfl ?_
        obtain ⟨v18, hv18, hF⟩ := ob_some hF
        refine en_iald (by decide +kernel : u_at kl_272 81 = some (.iaload, [])) hW ha0 rfl (by decide) hv18 ?_
        refine en_segs [(82, .aload_n 0, [])] (by decide +kernel) (y := (83, [some (.ref a0), some (.int x1), some (.int x2), some (.int x3), some (.int x4), none], [.ref a0, .int v18], h)) rfl ?_
        refine en_get (by decide +kernel : u_at kl_272 83 = some (.getfield 64, [12, 30])) hW ha0 (by decide) rfl ?_
        refine en_segs [(86, .iload_n 2, [])] (by decide +kernel) (y := (87, [some (.ref a0), some (.int x1), some (.int x2), some (.int x3), some (.int x4), none], [.int x2, .ref (aP d 12 30 a0), .int v18], h)) rfl ?_
        obtain ⟨v19, hv19, hF⟩ := ob_some hF
        refine en_iald (by decide +kernel : u_at kl_272 87 = some (.iaload, [])) hW ha0 rfl (by decide) hv19 ?_
        refine en_ic_ne (by decide +kernel : u_at kl_272 88 = some (.if_icmp .ne 7, [95])) (fun b20 => ?_) (fun b20 => ?_)
        · replace hF := i_pos b20 hF
          refine en_segs [(91, .iconst 1, []), (92, .goto 4, [96])] (by decide +kernel) (y := (96, [some (.ref a0), some (.int x1), some (.int x2), some (.int x3), some (.int x4), none], [.int 1], h)) rfl ?_
          obtain rfl := Option.some.inj hF
          exact j13
        · replace hF := i_neg b20 hF
          refine en_segs [(95, .iconst 0, [])] (by decide +kernel) (y := (96, [some (.ref a0), some (.int x1), some (.int x2), some (.int x3), some (.int x4), none], [.int 0], h)) rfl ?_
          obtain rfl := Option.some.inj hF
          exact j13
      · replace hF := i_neg b17 hF
        refine en_segs [(95, .iconst 0, [])] (by decide +kernel) (y := (96, [some (.ref a0), some (.int x1), some (.int x2), some (.int x3), some (.int x4), none], [.int 0], h)) rfl ?_
        obtain rfl := Option.some.inj hF
        exact j13
def F_272 (c12 : Cl) (a0 : Nat) (p1 : Int32) : Option Int32 :=
  G_272 c12 a0 0 [p1, 0] [] []
set_option maxRecDepth 100000 in
set_option maxHeartbeats 4000000 in
/-- HeadCountsModel.isKnownBy -/
theorem e_272 {D : Nat} {c0 c1 c2 c3 c4 c5 c6 c7 c8 c9 c10 c11 c12 c13 : Cl} {d : Ad} {h : UH} {a0 : Nat} {p1 : Int32} {r : Int32} (hD : 4 ≤ D) (hW : HW (mkw c0 c1 c2 c3 c4 c5 c6 c7 c8 c9 c10 c11 c12 c13) d h) (ha0 : aK d a0 = (0, 12, 0)) (hF : F_272 c12 a0 p1 = some r) : ∃ q, EX D 272 [.ref a0, .int p1] h q ∧ q.1 = some (.int r) ∧ h = q.2 := by
  obtain ⟨D, rfl⟩ : ∃ E, D = E + 1 := ⟨D - 1, by omega⟩
  unfold F_272 at hF
  refine ex_in (kl := kl_272) (nL := 6) rfl (by decide +kernel) (Nat.le_of_ble_eq_true rfl) ?_
  obtain ⟨QQ, hQQ⟩ : ∃ QQ : UR → Prop, QQ = (fun q : UR => q.1 = some (.int r) ∧ h = q.2) := ⟨_, rfl⟩
  rw [← hQQ]
  have hQ : QQ (some (.int r), h) := by rw [hQQ]; exact ⟨rfl, rfl⟩
  clear hQQ
  show Ends (EX D) (u_at kl_272) (0, [some (.ref a0), some (.int p1), none, none, none, none], [], h) QQ
  refine en_segs [(0, .iconst 0, []), (1, .istore_n 2, [])] (by decide +kernel) (y := (2, [some (.ref a0), some (.int p1), some (.int 0), none, none, none], [], h)) rfl ?_
  exact (g_272 (D := D) hD ha0 _ _ _ _ _ hF).1 _ _ rfl rfl rfl rfl  _ hW _ hQ
def F_273 (c12 : Cl) (a0 : Nat) (p1 : Int32) : Option (Int32 × Cl) :=
  F_218 c12 a0 >>= fun r1 =>
  if r1 = 0 then
  some ((-1), c12)
  else
  if p1 < 0 then
  some ((-1), c12)
  else
  ald (cA c12 20 a0) 221 0 >>= fun v4 =>
  if p1 < (1 <<< (v4 &&& 31)) then
  F_269 c12 a0 >>= fun r6 =>
  F_272 r6 a0 p1 >>= fun r7 =>
  ((if r7 = 0 then
  some 0
  else
  some 1) : Option (Int32)) >>= fun (t8 : Int32) =>
  some (t8, r6)
  else
  some ((-1), c12)
set_option maxRecDepth 100000 in
set_option maxHeartbeats 4000000 in
/-- HeadCountsModel.known -/
theorem e_273 {D : Nat} {c0 c1 c2 c3 c4 c5 c6 c7 c8 c9 c10 c11 c12 c13 : Cl} {d : Ad} {h : UH} {a0 : Nat} {p1 : Int32} {r : (Int32 × Cl)} (hD : 6 ≤ D) (hW : HW (mkw c0 c1 c2 c3 c4 c5 c6 c7 c8 c9 c10 c11 c12 c13) d h) (ha0 : aK d a0 = (0, 12, 0)) (hF : F_273 c12 a0 p1 = some r) : ∃ q, EX D 273 [.ref a0, .int p1] h q ∧ q.1 = some (.int r.1) ∧ HW (mkw c0 c1 c2 c3 c4 c5 c6 c7 c8 c9 c10 c11 r.2 c13) d q.2 := by
  obtain ⟨D, rfl⟩ : ∃ E, D = E + 1 := ⟨D - 1, by omega⟩
  unfold F_273 at hF
  refine ex_in (kl := kl_273) (nL := 2) rfl (by decide +kernel) (Nat.le_of_ble_eq_true rfl) ?_
  obtain ⟨QQ, hQQ⟩ : ∃ QQ : UR → Prop, QQ = (fun q : UR => q.1 = some (.int r.1) ∧ HW (mkw c0 c1 c2 c3 c4 c5 c6 c7 c8 c9 c10 c11 r.2 c13) d q.2) := ⟨_, rfl⟩
  rw [← hQQ]
  have hQ : ∀ h' : UH, HW (mkw c0 c1 c2 c3 c4 c5 c6 c7 c8 c9 c10 c11 r.2 c13) d h' → QQ (some (.int r.1), h') := fun h' p => by rw [hQQ]; exact ⟨rfl, p⟩
  clear hQQ
  show Ends (EX D) (u_at kl_273) (0, [some (.ref a0), some (.int p1)], [], h) QQ
  refine en_segs [(0, .aload_n 0, [])] (by decide +kernel) (y := (1, [some (.ref a0), some (.int p1)], [.ref a0], h)) rfl ?_
  obtain ⟨r1, hr1, hF⟩ := ob_some hF
  refine en_vi (r := []) (by decide +kernel : u_at kl_273 1 = some (.invokevirtual 409, [218, 0, 12])) hW ha0 rfl rfl (Nat.le_of_ble_eq_true rfl) (e_218 (D := D) (by omega) hW ha0 hr1) (fun h' q => ?_)
  subst q
  refine en_if_eq (by decide +kernel : u_at kl_273 4 = some (.ifCond .eq 19, [23])) (fun b2 => ?_) (fun b2 => ?_)
  · replace hF := i_pos b2 hF
    refine en_segs [(23, .iconst (-1), [])] (by decide +kernel) (y := (24, [some (.ref a0), some (.int p1)], [.int (-1)], h)) rfl ?_
    obtain rfl := Option.some.inj hF
    exact en_ret (by decide +kernel : u_at kl_273 24 = some (.ireturn, [0])) rfl (hQ _ hW)
  · replace hF := i_neg b2 hF
    refine en_segs [(7, .iload_n 1, [])] (by decide +kernel) (y := (8, [some (.ref a0), some (.int p1)], [.int p1], h)) rfl ?_
    refine en_if_lt (by decide +kernel : u_at kl_273 8 = some (.ifCond .lt 15, [23])) (fun b3 => ?_) (fun b3 => ?_)
    · replace hF := i_pos b3 hF
      refine en_segs [(23, .iconst (-1), [])] (by decide +kernel) (y := (24, [some (.ref a0), some (.int p1)], [.int (-1)], h)) rfl ?_
      obtain rfl := Option.some.inj hF
      exact en_ret (by decide +kernel : u_at kl_273 24 = some (.ireturn, [0])) rfl (hQ _ hW)
    · replace hF := i_neg b3 hF
      refine en_segs [(11, .iload_n 1, []), (12, .iconst 1, []), (13, .aload_n 0, [])] (by decide +kernel) (y := (14, [some (.ref a0), some (.int p1)], [.ref a0, .int 1, .int p1], h)) rfl ?_
      refine en_get (by decide +kernel : u_at kl_273 14 = some (.getfield 39, [12, 20])) hW ha0 (by decide) rfl ?_
      refine en_segs [(17, .iconst 0, [])] (by decide +kernel) (y := (18, [some (.ref a0), some (.int p1)], [.int 0, .ref (aP d 12 20 a0), .int 1, .int p1], h)) rfl ?_
      obtain ⟨v4, hv4, hF⟩ := ob_some hF
      refine en_iald (by decide +kernel : u_at kl_273 18 = some (.iaload, [])) hW ha0 rfl (by decide) hv4 ?_
      refine en_segs [(19, .ishl, [])] (by decide +kernel) (y := (20, [some (.ref a0), some (.int p1)], [.int (1 <<< (v4 &&& 31)), .int p1], h)) rfl ?_
      refine en_ic_lt (by decide +kernel : u_at kl_273 20 = some (.if_icmp .lt 5, [25])) (fun b5 => ?_) (fun b5 => ?_)
      · replace hF := i_pos b5 hF
        refine en_segs [(25, .aload_n 0, [])] (by decide +kernel) (y := (26, [some (.ref a0), some (.int p1)], [.ref a0], h)) rfl ?_
        obtain ⟨r6, hr6, hF⟩ := ob_some hF
        refine en_vv (r := []) (by decide +kernel : u_at kl_273 26 = some (.invokevirtual 473, [269, 0, 12])) hW ha0 rfl rfl (Nat.le_of_ble_eq_true rfl) (e_269 (D := D) (by omega) hW ha0 hr6) (fun h hW => ?_)
        have hW : HW (mkw c0 c1 c2 c3 c4 c5 c6 c7 c8 c9 c10 c11 r6 c13) d h := hW
        refine en_segs [(29, .aload_n 0, []), (30, .iload_n 1, [])] (by decide +kernel) (y := (31, [some (.ref a0), some (.int p1)], [.int p1, .ref a0], h)) rfl ?_
        obtain ⟨r7, hr7, hF⟩ := ob_some hF
        refine en_vi (r := []) (by decide +kernel : u_at kl_273 31 = some (.invokevirtual 476, [272, 1, 12])) hW ha0 rfl rfl (Nat.le_of_ble_eq_true rfl) (e_272 (D := D) (by omega) hW ha0 hr7) (fun h' q => ?_)
        subst q
        obtain ⟨t8, hX, hK⟩ := ob_some hF
        have j9 : ∀ h : UH, HW (mkw c0 c1 c2 c3 c4 c5 c6 c7 c8 c9 c10 c11 r6 c13) d h → Ends (EX D) (u_at kl_273) (42, [some (.ref a0), some (.int p1)], [.int t8], h) QQ := by
          intro h hW
          have hF := hK
          obtain rfl := Option.some.inj hF
          exact en_ret (by decide +kernel : u_at kl_273 42 = some (.ireturn, [0])) rfl (hQ _ hW)
        have hF := hX
        refine en_if_eq (by decide +kernel : u_at kl_273 34 = some (.ifCond .eq 7, [41])) (fun b10 => ?_) (fun b10 => ?_)
        · replace hF := i_pos b10 hF
          refine en_segs [(41, .iconst 0, [])] (by decide +kernel) (y := (42, [some (.ref a0), some (.int p1)], [.int 0], h)) rfl ?_
          obtain rfl := Option.some.inj hF
          exact j9 _ hW
        · replace hF := i_neg b10 hF
          refine en_segs [(37, .iconst 1, []), (38, .goto 4, [42])] (by decide +kernel) (y := (42, [some (.ref a0), some (.int p1)], [.int 1], h)) rfl ?_
          obtain rfl := Option.some.inj hF
          exact j9 _ hW
      · replace hF := i_neg b5 hF
        refine en_segs [(23, .iconst (-1), [])] (by decide +kernel) (y := (24, [some (.ref a0), some (.int p1)], [.int (-1)], h)) rfl ?_
        obtain rfl := Option.some.inj hF
        exact en_ret (by decide +kernel : u_at kl_273 24 = some (.ireturn, [0])) rfl (hQ _ hW)
def G_274 (c12 : Cl) (a0 : Nat) (lab : Nat) (xs : List Int32) (ys : List Int64) (zs : List Nat) : Option (Int32 × Cl) := match lab, xs, ys, zs with
  | 0, [x1, x2], [], [] =>
    if x2 < 0 then
    some (x1, c12)
    else
    F_172 x2 >>= fun r6 =>
    F_172 x1 >>= fun r7 =>
    ((if r7 < r6 then
    some x1
    else
    F_272 c12 a0 x2 >>= fun r11 =>
    if r11 = 0 then
    some x1
    else
    some x2) : Option (Int32)) >>= fun (t8 : Int32) =>
    G_274 c12 a0 0 [t8, x2 + (-1)] [] []
  | _, _, _, _ => none
partial_fixpoint
set_option maxRecDepth 100000 in
set_option maxHeartbeats 4000000 in
theorem g_274 {D : Nat} (hD : 6 ≤ D + 1) {c0 c1 c2 c3 c4 c5 c6 c7 c8 c9 c10 c11 c12 c13 : Cl} {d : Ad} {a0 : Nat} (ha0 : aK d a0 = (0, 12, 0)) : ∀ (lab : Nat) (xs : List Int32) (ys : List Int64) (zs : List Nat) (r : (Int32 × Cl)), G_274 c12 a0 lab xs ys zs = some r →
    (∀ (x1 : Int32) (x2 : Int32), lab = 0 → xs = [x1, x2] → ys = [] → zs = [] → ∀ h : UH, HW (mkw c0 c1 c2 c3 c4 c5 c6 c7 c8 c9 c10 c11 c12 c13) d h → ∀ QQ : UR → Prop, (∀ h' : UH, HW (mkw c0 c1 c2 c3 c4 c5 c6 c7 c8 c9 c10 c11 r.2 c13) d h' → QQ (some (.int r.1), h')) → Ends (EX D) (u_at kl_274) (26, [some (.ref a0), some (.int x1), some (.int x2)], [], h) QQ) := by
  refine G_274.partial_correctness _ _ (motive := fun lab xs ys zs r =>
    (∀ (x1 : Int32) (x2 : Int32), lab = 0 → xs = [x1, x2] → ys = [] → zs = [] → ∀ h : UH, HW (mkw c0 c1 c2 c3 c4 c5 c6 c7 c8 c9 c10 c11 c12 c13) d h → ∀ QQ : UR → Prop, (∀ h' : UH, HW (mkw c0 c1 c2 c3 c4 c5 c6 c7 c8 c9 c10 c11 r.2 c13) d h' → QQ (some (.int r.1), h')) → Ends (EX D) (u_at kl_274) (26, [some (.ref a0), some (.int x1), some (.int x2)], [], h) QQ)) ?_
  intro G ih lab xs ys zs r hF
  · intro x1 x2 e1 e2 e3 e4 h hW QQ hQ
    subst e1 e2 e3 e4
    refine en_segs [(26, .iload_n 2, [])] (by decide +kernel) (y := (27, [some (.ref a0), some (.int x1), some (.int x2)], [.int x2], h)) rfl ?_
    refine en_if_lt (by decide +kernel : u_at kl_274 27 = some (.ifCond .lt 30, [57])) (fun b5 => ?_) (fun b5 => ?_)
    · replace hF := i_pos b5 hF
      refine en_segs [(57, .iload_n 1, [])] (by decide +kernel) (y := (58, [some (.ref a0), some (.int x1), some (.int x2)], [.int x1], h)) rfl ?_
      obtain rfl := Option.some.inj hF
      exact en_ret (by decide +kernel : u_at kl_274 58 = some (.ireturn, [0])) rfl (hQ _ hW)
    · replace hF := i_neg b5 hF
      refine en_segs [(30, .iload_n 2, [])] (by decide +kernel) (y := (31, [some (.ref a0), some (.int x1), some (.int x2)], [.int x2], h)) rfl ?_
      obtain ⟨r6, hr6, hF⟩ := ob_some hF
      refine en_si (r := []) (by decide +kernel : u_at kl_274 31 = some (.invokestatic 479, [172, 1])) rfl rfl (Nat.le_of_ble_eq_true rfl) (e_172 (D := D) (by omega) hW hr6) (fun h' q => ?_)
      subst q
      refine en_segs [(34, .iload_n 1, [])] (by decide +kernel) (y := (35, [some (.ref a0), some (.int x1), some (.int x2)], [.int x1, .int r6], h)) rfl ?_
      obtain ⟨r7, hr7, hF⟩ := ob_some hF
      refine en_si (r := [.int r6]) (by decide +kernel : u_at kl_274 35 = some (.invokestatic 479, [172, 1])) rfl rfl (Nat.le_of_ble_eq_true rfl) (e_172 (D := D) (by omega) hW hr7) (fun h' q => ?_)
      subst q
      obtain ⟨t8, hX, hK⟩ := ob_some hF
      have j9 : ∀ h : UH, HW (mkw c0 c1 c2 c3 c4 c5 c6 c7 c8 c9 c10 c11 c12 c13) d h → Ends (EX D) (u_at kl_274) (51, [some (.ref a0), some (.int t8), some (.int x2)], [], h) QQ := by
        intro h hW
        have hF := hK
        refine en_segs [(51, .iinc 2 (-1), []), (54, .goto (-28), [26])] (by decide +kernel) (y := (26, [some (.ref a0), some (.int t8), some (.int (x2 + (-1)))], [], h)) rfl ?_
        exact (ih _ _ _ _ _ hF) _ _ rfl rfl rfl rfl  _ hW _ hQ
      have hF := hX
      refine en_ic_gt (by decide +kernel : u_at kl_274 38 = some (.if_icmp .gt 13, [51])) (fun b10 => ?_) (fun b10 => ?_)
      · replace hF := i_pos b10 hF
        obtain rfl := Option.some.inj hF
        exact j9 _ hW
      · replace hF := i_neg b10 hF
        refine en_segs [(41, .aload_n 0, []), (42, .iload_n 2, [])] (by decide +kernel) (y := (43, [some (.ref a0), some (.int x1), some (.int x2)], [.int x2, .ref a0], h)) rfl ?_
        obtain ⟨r11, hr11, hF⟩ := ob_some hF
        refine en_vi (r := []) (by decide +kernel : u_at kl_274 43 = some (.invokevirtual 476, [272, 1, 12])) hW ha0 rfl rfl (Nat.le_of_ble_eq_true rfl) (e_272 (D := D) (by omega) hW ha0 hr11) (fun h' q => ?_)
        subst q
        refine en_if_eq (by decide +kernel : u_at kl_274 46 = some (.ifCond .eq 5, [51])) (fun b12 => ?_) (fun b12 => ?_)
        · replace hF := i_pos b12 hF
          obtain rfl := Option.some.inj hF
          exact j9 _ hW
        · replace hF := i_neg b12 hF
          refine en_segs [(49, .iload_n 2, []), (50, .istore_n 1, [])] (by decide +kernel) (y := (51, [some (.ref a0), some (.int x2), some (.int x2)], [], h)) rfl ?_
          obtain rfl := Option.some.inj hF
          exact j9 _ hW
def F_274 (c12 : Cl) (a0 : Nat) : Option (Int32 × Cl) :=
  F_218 c12 a0 >>= fun r1 =>
  if r1 = 0 then
  some ((-1), c12)
  else
  F_269 c12 a0 >>= fun r3 =>
  ald (cA r3 20 a0) 221 0 >>= fun v4 =>
  G_274 r3 a0 0 [(1 <<< (v4 &&& 31)) - 1, (1 <<< (v4 &&& 31)) - 1] [] []
set_option maxRecDepth 100000 in
set_option maxHeartbeats 4000000 in
/-- HeadCountsModel.watch -/
theorem e_274 {D : Nat} {c0 c1 c2 c3 c4 c5 c6 c7 c8 c9 c10 c11 c12 c13 : Cl} {d : Ad} {h : UH} {a0 : Nat} {r : (Int32 × Cl)} (hD : 6 ≤ D) (hW : HW (mkw c0 c1 c2 c3 c4 c5 c6 c7 c8 c9 c10 c11 c12 c13) d h) (ha0 : aK d a0 = (0, 12, 0)) (hF : F_274 c12 a0 = some r) : ∃ q, EX D 274 [.ref a0] h q ∧ q.1 = some (.int r.1) ∧ HW (mkw c0 c1 c2 c3 c4 c5 c6 c7 c8 c9 c10 c11 r.2 c13) d q.2 := by
  obtain ⟨D, rfl⟩ : ∃ E, D = E + 1 := ⟨D - 1, by omega⟩
  unfold F_274 at hF
  refine ex_in (kl := kl_274) (nL := 3) rfl (by decide +kernel) (Nat.le_of_ble_eq_true rfl) ?_
  obtain ⟨QQ, hQQ⟩ : ∃ QQ : UR → Prop, QQ = (fun q : UR => q.1 = some (.int r.1) ∧ HW (mkw c0 c1 c2 c3 c4 c5 c6 c7 c8 c9 c10 c11 r.2 c13) d q.2) := ⟨_, rfl⟩
  rw [← hQQ]
  have hQ : ∀ h' : UH, HW (mkw c0 c1 c2 c3 c4 c5 c6 c7 c8 c9 c10 c11 r.2 c13) d h' → QQ (some (.int r.1), h') := fun h' p => by rw [hQQ]; exact ⟨rfl, p⟩
  clear hQQ
  show Ends (EX D) (u_at kl_274) (0, [some (.ref a0), none, none], [], h) QQ
  refine en_segs [(0, .aload_n 0, [])] (by decide +kernel) (y := (1, [some (.ref a0), none, none], [.ref a0], h)) rfl ?_
  obtain ⟨r1, hr1, hF⟩ := ob_some hF
  refine en_vi (r := []) (by decide +kernel : u_at kl_274 1 = some (.invokevirtual 409, [218, 0, 12])) hW ha0 rfl rfl (Nat.le_of_ble_eq_true rfl) (e_218 (D := D) (by omega) hW ha0 hr1) (fun h' q => ?_)
  subst q
  refine en_if_ne (by decide +kernel : u_at kl_274 4 = some (.ifCond .ne 5, [9])) (fun b2 => ?_) (fun b2 => ?_)
  · replace hF := i_pos b2 hF
    refine en_segs [(7, .iconst (-1), [])] (by decide +kernel) (y := (8, [some (.ref a0), none, none], [.int (-1)], h)) rfl ?_
    obtain rfl := Option.some.inj hF
    exact en_ret (by decide +kernel : u_at kl_274 8 = some (.ireturn, [0])) rfl (hQ _ hW)
  · replace hF := i_neg b2 hF
    refine en_segs [(9, .aload_n 0, [])] (by decide +kernel) (y := (10, [some (.ref a0), none, none], [.ref a0], h)) rfl ?_
    obtain ⟨r3, hr3, hF⟩ := ob_some hF
    refine en_vv (r := []) (by decide +kernel : u_at kl_274 10 = some (.invokevirtual 473, [269, 0, 12])) hW ha0 rfl rfl (Nat.le_of_ble_eq_true rfl) (e_269 (D := D) (by omega) hW ha0 hr3) (fun h hW => ?_)
    have hW : HW (mkw c0 c1 c2 c3 c4 c5 c6 c7 c8 c9 c10 c11 r3 c13) d h := hW
    refine en_segs [(13, .iconst 1, []), (14, .aload_n 0, [])] (by decide +kernel) (y := (15, [some (.ref a0), none, none], [.ref a0, .int 1], h)) rfl ?_
    refine en_get (by decide +kernel : u_at kl_274 15 = some (.getfield 39, [12, 20])) hW ha0 (by decide) rfl ?_
    refine en_segs [(18, .iconst 0, [])] (by decide +kernel) (y := (19, [some (.ref a0), none, none], [.int 0, .ref (aP d 12 20 a0), .int 1], h)) rfl ?_
    obtain ⟨v4, hv4, hF⟩ := ob_some hF
    refine en_iald (by decide +kernel : u_at kl_274 19 = some (.iaload, [])) hW ha0 rfl (by decide) hv4 ?_
    refine en_segs [(20, .ishl, []), (21, .iconst 1, []), (22, .isub, []), (23, .istore_n 1, []), (24, .iload_n 1, []), (25, .istore_n 2, [])] (by decide +kernel) (y := (26, [some (.ref a0), some (.int ((1 <<< (v4 &&& 31)) - 1)), some (.int ((1 <<< (v4 &&& 31)) - 1))], [], h)) rfl ?_
    exact (g_274 (D := D) hD ha0 _ _ _ _ _ hF) _ _ rfl rfl rfl rfl  _ hW _ hQ
