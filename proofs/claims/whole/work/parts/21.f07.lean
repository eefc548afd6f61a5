def G_265 (c12 : Cl) (a0 : Nat) (lab : Nat) (xs : List Int32) (ys : List Int64) (zs : List Nat) : Option (Int32 × Cl) := match lab, xs, ys, zs with
  | 0, [x1, x2, x3], [], [] =>
    if 46656 ≤ x3 then
    some (x2, c12)
    else
    ldl (cB c12 26 a0) 46656 x3 >>= fun v8 =>
    ((if (lg_cmp v8 0) ≤ 0 then
    some 0
    else
    ald (cA c12 25 a0) 6 x1 >>= fun v12 =>
    idv x3 v12 >>= fun v13 =>
    irm v13 6 >>= fun v14 =>
    some (1 <<< (v14 &&& 31))) : Option (Int32)) >>= fun (t9 : Int32) =>
    G_265 c12 a0 0 [x1, x2 ||| t9, x3 + 1] [] []
  | _, _, _, _ => none
partial_fixpoint
set_option maxRecDepth 100000 in
set_option maxHeartbeats 4000000 in
theorem g_265 {D : Nat} (hD : 7 ≤ D + 1) {c0 c1 c2 c3 c4 c5 c6 c7 c8 c9 c10 c11 c12 c13 : Cl} {d : Ad} {a0 : Nat} (ha0 : aK d a0 = (0, 12, 0)) : ∀ (lab : Nat) (xs : List Int32) (ys : List Int64) (zs : List Nat) (r : (Int32 × Cl)), G_265 c12 a0 lab xs ys zs = some r →
    (∀ (x1 : Int32) (x2 : Int32) (x3 : Int32), lab = 0 → xs = [x1, x2, x3] → ys = [] → zs = [] → ∀ h : UH, HW (mkw c0 c1 c2 c3 c4 c5 c6 c7 c8 c9 c10 c11 c12 c13) d h → ∀ QQ : UR → Prop, (∀ h' : UH, HW (mkw c0 c1 c2 c3 c4 c5 c6 c7 c8 c9 c10 c11 r.2 c13) d h' → QQ (some (.int r.1), h')) → Ends (EX D) (u_at kl_265) (35, [some (.ref a0), some (.int x1), some (.int x2), some (.int x3)], [], h) QQ) := by
  refine G_265.partial_correctness _ _ (motive := fun lab xs ys zs r =>
    (∀ (x1 : Int32) (x2 : Int32) (x3 : Int32), lab = 0 → xs = [x1, x2, x3] → ys = [] → zs = [] → ∀ h : UH, HW (mkw c0 c1 c2 c3 c4 c5 c6 c7 c8 c9 c10 c11 c12 c13) d h → ∀ QQ : UR → Prop, (∀ h' : UH, HW (mkw c0 c1 c2 c3 c4 c5 c6 c7 c8 c9 c10 c11 r.2 c13) d h' → QQ (some (.int r.1), h')) → Ends (EX D) (u_at kl_265) (35, [some (.ref a0), some (.int x1), some (.int x2), some (.int x3)], [], h) QQ)) ?_
  intro G ih lab xs ys zs r hF
  · intro x1 x2 x3 e1 e2 e3 e4 h hW QQ hQ
    subst e1 e2 e3 e4
    refine en_segs [(35, .iload_n 3, []), (36, .ldc 51, [46656])] (by decide +kernel) (y := (38, [some (.ref a0), some (.int x1), some (.int x2), some (.int x3)], [.int 46656, .int x3], h)) rfl ?_
    refine en_ic_ge (by decide +kernel : u_at kl_265 38 = some (.if_icmp .ge 40, [78])) (fun b7 => ?_) (fun b7 => ?_)
    · replace hF := i_pos b7 hF
      refine en_segs [(78, .iload_n 2, [])] (by decide +kernel) (y := (79, [some (.ref a0), some (.int x1), some (.int x2), some (.int x3)], [.int x2], h)) rfl ?_
      obtain rfl := Option.some.inj hF
      exact en_ret (by decide +kernel : u_at kl_265 79 = some (.ireturn, [0])) rfl (hQ _ hW)
    · replace hF := i_neg b7 hF
      refine en_segs [(41, .iload_n 2, []), (42, .aload_n 0, [])] (by decide +kernel) (y := (43, [some (.ref a0), some (.int x1), some (.int x2), some (.int x3)], [.ref a0, .int x2], h)) rfl ?_
      refine en_get (by decide +kernel : u_at kl_265 43 = some (.getfield 52, [12, 26])) hW ha0 (by decide) rfl ?_
      refine en_segs [(46, .iload_n 3, [])] (by decide +kernel) (y := (47, [some (.ref a0), some (.int x1), some (.int x2), some (.int x3)], [.int x3, .ref (aP d 12 26 a0), .int x2], h)) rfl ?_
      obtain ⟨v8, hv8, hF⟩ := ob_some hF
      refine en_lald (by decide +kernel : u_at kl_265 47 = some (.laload, [])) hW ha0 rfl (by decide) hv8 ?_
      refine en_segs [(48, .lconst 0, []), (49, .lcmp, [])] (by decide +kernel) (y := (50, [some (.ref a0), some (.int x1), some (.int x2), some (.int x3)], [.int (lg_cmp v8 0), .int x2], h)) rfl ?_
      obtain ⟨t9, hX, hK⟩ := ob_some hF
      have j10 : ∀ h : UH, HW (mkw c0 c1 c2 c3 c4 c5 c6 c7 c8 c9 c10 c11 c12 c13) d h → Ends (EX D) (u_at kl_265) (70, [some (.ref a0), some (.int x1), some (.int x2), some (.int x3)], [.int t9, .int x2], h) QQ := by
        intro h hW
        have hF := hK
        refine en_segs [(70, .ior, []), (71, .istore_n 2, []), (72, .iinc 3 1, []), (75, .goto (-40), [35])] (by decide +kernel) (y := (35, [some (.ref a0), some (.int x1), some (.int (x2 ||| t9)), some (.int (x3 + 1))], [], h)) rfl ?_
        exact (ih _ _ _ _ _ hF) _ _ _ rfl rfl rfl rfl  _ hW _ hQ
      have hF := hX
      refine en_if_le (by decide +kernel : u_at kl_265 50 = some (.ifCond .le 19, [69])) (fun b11 => ?_) (fun b11 => ?_)
      · replace hF := i_pos b11 hF
        refine en_segs [(69, .iconst 0, [])] (by decide +kernel) (y := (70, [some (.ref a0), some (.int x1), some (.int x2), some (.int x3)], [.int 0, .int x2], h)) rfl ?_
        obtain rfl := Option.some.inj hF
        exact j10 _ hW
      · replace hF := i_neg b11 hF
        refine en_segs [(53, .iconst 1, []), (54, .iload_n 3, []), (55, .aload_n 0, [])] (by decide +kernel) (y := (56, [some (.ref a0), some (.int x1), some (.int x2), some (.int x3)], [.ref a0, .int x3, .int 1, .int x2], h)) rfl ?_
        refine en_get (by decide +kernel : u_at kl_265 56 = some (.getfield 48, [12, 25])) hW ha0 (by decide) rfl ?_
        refine en_segs [(59, .iload_n 1, [])] (by decide +kernel) (y := (60, [some (.ref a0), some (.int x1), some (.int x2), some (.int x3)], [.int x1, .ref (aP d 12 25 a0), .int x3, .int 1, .int x2], h)) rfl ?_
        obtain ⟨v12, hv12, hF⟩ := ob_some hF
        refine en_iald (by decide +kernel : u_at kl_265 60 = some (.iaload, [])) hW ha0 rfl (by decide) hv12 ?_
        obtain ⟨v13, hv13, hF⟩ := ob_some hF
        refine en_idiv (by decide +kernel : u_at kl_265 61 = some (.idiv, [])) hv13 ?_
        refine en_segs [(62, .bipush 6, [])] (by decide +kernel) (y := (64, [some (.ref a0), some (.int x1), some (.int x2), some (.int x3)], [.int 6, .int v13, .int 1, .int x2], h)) rfl ?_
        obtain ⟨v14, hv14, hF⟩ := ob_some hF
        refine en_irem (by decide +kernel : u_at kl_265 64 = some (.irem, [])) hv14 ?_
        refine en_segs [(65, .ishl, []), (66, .goto 4, [70])] (by decide +kernel) (y := (70, [some (.ref a0), some (.int x1), some (.int x2), some (.int x3)], [.int (1 <<< (v14 &&& 31)), .int x2], h)) rfl ?_
        obtain rfl := Option.some.inj hF
        exact j10 _ hW
def F_265 (c12 : Cl) (a0 : Nat) (p1 : Int32) : Option (Int32 × Cl) :=
  F_221 c12 a0 p1 >>= fun r1 =>
  if r1 = 0 then
  some ((-1), c12)
  else
  F_224 c12 a0 p1 >>= fun r3 =>
  if r3 = 0 then
  some ((-1), c12)
  else
  ald (cA c12 20 a0) 221 220 >>= fun v5 =>
  F_263 c12 a0 v5 >>= fun r6 =>
  G_265 r6.2 a0 0 [p1, 0, 0] [] []
set_option maxRecDepth 100000 in
set_option maxHeartbeats 4000000 in
/-- HeadCountsModel.who -/
theorem e_265 {D : Nat} {c0 c1 c2 c3 c4 c5 c6 c7 c8 c9 c10 c11 c12 c13 : Cl} {d : Ad} {h : UH} {a0 : Nat} {p1 : Int32} {r : (Int32 × Cl)} (hD : 7 ≤ D) (hW : HW (mkw c0 c1 c2 c3 c4 c5 c6 c7 c8 c9 c10 c11 c12 c13) d h) (ha0 : aK d a0 = (0, 12, 0)) (hF : F_265 c12 a0 p1 = some r) : ∃ q, EX D 265 [.ref a0, .int p1] h q ∧ q.1 = some (.int r.1) ∧ HW (mkw c0 c1 c2 c3 c4 c5 c6 c7 c8 c9 c10 c11 r.2 c13) d q.2 := by
  obtain ⟨D, rfl⟩ : ∃ E, D = E + 1 := ⟨D - 1, by omega⟩
  unfold F_265 at hF
  refine ex_in (kl := kl_265) (nL := 4) rfl (by decide +kernel) (Nat.le_of_ble_eq_true rfl) ?_
  obtain ⟨QQ, hQQ⟩ : ∃ QQ : UR → Prop, QQ = (fun q : UR => q.1 = some (.int r.1) ∧ HW (mkw c0 c1 c2 c3 c4 c5 c6 c7 c8 c9 c10 c11 r.2 c13) d q.2) := ⟨_, rfl⟩
  rw [← hQQ]
  have hQ : ∀ h' : UH, HW (mkw c0 c1 c2 c3 c4 c5 c6 c7 c8 c9 c10 c11 r.2 c13) d h' → QQ (some (.int r.1), h') := fun h' p => by rw [hQQ]; exact ⟨rfl, p⟩
  clear hQQ
  show Ends (EX D) (u_at kl_265) (0, [some (.ref a0), some (.int p1), none, none], [], h) QQ
  refine en_segs [(0, .aload_n 0, []), (1, .iload_n 1, [])] (by decide +kernel) (y := (2, [some (.ref a0), some (.int p1), none, none], [.int p1, .ref a0], h)) rfl ?_
  obtain ⟨r1, hr1, hF⟩ := ob_some hF
  refine en_vi (r := []) (by decide +kernel : u_at kl_265 2 = some (.invokevirtual 367, [221, 1, 12])) hW ha0 rfl rfl (Nat.le_of_ble_eq_true rfl) (e_221 (D := D) (by omega) hW ha0 hr1) (fun h' q => ?_)
  subst q
  refine en_if_eq (by decide +kernel : u_at kl_265 5 = some (.ifCond .eq 11, [16])) (fun b2 => ?_) (fun b2 => ?_)
  · replace hF := i_pos b2 hF
    refine en_segs [(16, .iconst (-1), [])] (by decide +kernel) (y := (17, [some (.ref a0), some (.int p1), none, none], [.int (-1)], h)) rfl ?_
    obtain rfl := Option.some.inj hF
    exact en_ret (by decide +kernel : u_at kl_265 17 = some (.ireturn, [0])) rfl (hQ _ hW)
  · replace hF := i_neg b2 hF
    refine en_segs [(8, .aload_n 0, []), (9, .iload_n 1, [])] (by decide +kernel) (y := (10, [some (.ref a0), some (.int p1), none, none], [.int p1, .ref a0], h)) rfl ?_
    obtain ⟨r3, hr3, hF⟩ := ob_some hF
    refine en_vi (r := []) (by decide +kernel : u_at kl_265 10 = some (.invokevirtual 346, [224, 1, 12])) hW ha0 rfl rfl (Nat.le_of_ble_eq_true rfl) (e_224 (D := D) (by omega) hW ha0 hr3) (fun h' q => ?_)
    subst q
    refine en_if_ne (by decide +kernel : u_at kl_265 13 = some (.ifCond .ne 5, [18])) (fun b4 => ?_) (fun b4 => ?_)
    · replace hF := i_pos b4 hF
      refine en_segs [(16, .iconst (-1), [])] (by decide +kernel) (y := (17, [some (.ref a0), some (.int p1), none, none], [.int (-1)], h)) rfl ?_
      obtain rfl := Option.some.inj hF
      exact en_ret (by decide +kernel : u_at kl_265 17 = some (.ireturn, [0])) rfl (hQ _ hW)
    · replace hF := i_neg b4 hF
      refine en_segs [(18, .aload_n 0, []), (19, .aload_n 0, [])] (by decide +kernel) (y := (20, [some (.ref a0), some (.int p1), none, none], [.ref a0, .ref a0], h)) rfl ?_
      refine en_get (by decide +kernel : u_at kl_265 20 = some (.getfield 39, [12, 20])) hW ha0 (by decide) rfl ?_
      refine en_segs [(23, .sipush 220, [])] (by decide +kernel) (y := (26, [some (.ref a0), some (.int p1), none, none], [.int 220, .ref (aP d 12 20 a0), .ref a0], h)) rfl ?_
      obtain ⟨v5, hv5, hF⟩ := ob_some hF
      refine en_iald (by decide +kernel : u_at kl_265 26 = some (.iaload, [])) hW ha0 rfl (by decide) hv5 ?_
      obtain ⟨r6, hr6, hF⟩ := ob_some hF
      refine en_vl (r := []) (by decide +kernel : u_at kl_265 27 = some (.invokevirtual 455, [263, 1, 12])) hW ha0 rfl rfl (Nat.le_of_ble_eq_true rfl) (e_263 (D := D) (by omega) hW ha0 hr6) (fun h hW => ?_)
      have hW : HW (mkw c0 c1 c2 c3 c4 c5 c6 c7 c8 c9 c10 c11 r6.2 c13) d h := hW
      refine en_segs [(30, .pop2, []), (31, .iconst 0, []), (32, .istore_n 2, []), (33, .iconst 0, []), (34, .istore_n 3, [])] (by decide +kernel) (y := (35, [some (.ref a0), some (.int p1), some (.int 0), some (.int 0)], [], h)) rfl ?_
      exact (g_265 (D := D) hD (d := d) ha0 _ _ _ _ _ hF) _ _ _ rfl rfl rfl rfl  _ hW _ hQ
def G_266 (a0 : Nat) (lab : Nat) (xs : List Int32) (ys : List Int64) (zs : List Nat) (c12 : Cl) : Option (Int32 × Cl) := match lab, xs, ys, zs with
  | 0, [x1], [], [] =>
    ald (cA c12 20 a0) 221 220 >>= fun v3 =>
    if v3 ≤ x1 then
    some ((-2), c12)
    else
    F_263 c12 a0 (x1 + 1) >>= fun r5 =>
    if (lg_cmp r5.1 0) = 0 then
    some (x1, r5.2)
    else
    G_266 a0 0 [x1 + 1] [] [] r5.2
  | _, _, _, _ => none
partial_fixpoint
set_option maxRecDepth 100000 in
set_option maxHeartbeats 4000000 in
theorem g_266 {D : Nat} (hD : 7 ≤ D + 1) {c0 c1 c2 c3 c4 c5 c6 c7 c8 c9 c10 c11 c13 : Cl} {d : Ad} {a0 : Nat} (ha0 : aK d a0 = (0, 12, 0)) : ∀ (lab : Nat) (xs : List Int32) (ys : List Int64) (zs : List Nat) (c12 : Cl) (r : (Int32 × Cl)), G_266 a0 lab xs ys zs c12 = some r →
    (∀ (x1 : Int32), lab = 0 → xs = [x1] → ys = [] → zs = [] → ∀ h : UH, HW (mkw c0 c1 c2 c3 c4 c5 c6 c7 c8 c9 c10 c11 c12 c13) d h → ∀ QQ : UR → Prop, (∀ h' : UH, HW (mkw c0 c1 c2 c3 c4 c5 c6 c7 c8 c9 c10 c11 r.2 c13) d h' → QQ (some (.int r.1), h')) → Ends (EX D) (u_at kl_266) (11, [some (.ref a0), some (.int x1)], [], h) QQ) := by
  refine G_266.partial_correctness _ (motive := fun lab xs ys zs c12 r =>
    (∀ (x1 : Int32), lab = 0 → xs = [x1] → ys = [] → zs = [] → ∀ h : UH, HW (mkw c0 c1 c2 c3 c4 c5 c6 c7 c8 c9 c10 c11 c12 c13) d h → ∀ QQ : UR → Prop, (∀ h' : UH, HW (mkw c0 c1 c2 c3 c4 c5 c6 c7 c8 c9 c10 c11 r.2 c13) d h' → QQ (some (.int r.1), h')) → Ends (EX D) (u_at kl_266) (11, [some (.ref a0), some (.int x1)], [], h) QQ)) ?_
  intro G ih lab xs ys zs c12 r hF
  · intro x1 e1 e2 e3 e4 h hW QQ hQ
    subst e1 e2 e3 e4
    refine en_segs [(11, .iload_n 1, []), (12, .aload_n 0, [])] (by decide +kernel) (y := (13, [some (.ref a0), some (.int x1)], [.ref a0, .int x1], h)) rfl ?_
    refine en_get (by decide +kernel : u_at kl_266 13 = some (.getfield 39, [12, 20])) hW ha0 (by decide) rfl ?_
    refine en_segs [(16, .sipush 220, [])] (by decide +kernel) (y := (19, [some (.ref a0), some (.int x1)], [.int 220, .ref (aP d 12 20 a0), .int x1], h)) rfl ?_
    obtain ⟨v3, hv3, hF⟩ := ob_some hF
    refine en_iald (by decide +kernel : u_at kl_266 19 = some (.iaload, [])) hW ha0 rfl (by decide) hv3 ?_
    refine en_ic_ge (by decide +kernel : u_at kl_266 20 = some (.if_icmp .ge 23, [43])) (fun b4 => ?_) (fun b4 => ?_)
    · replace hF := i_pos b4 hF
      refine en_segs [(43, .bipush (-2), [])] (by decide +kernel) (y := (45, [some (.ref a0), some (.int x1)], [.int (-2)], h)) rfl ?_
      obtain rfl := Option.some.inj hF
      exact en_ret (by decide +kernel : u_at kl_266 45 = some (.ireturn, [0])) rfl (hQ _ hW)
    · replace hF := i_neg b4 hF
      refine en_segs [(23, .aload_n 0, []), (24, .iload_n 1, []), (25, .iconst 1, []), (26, .iadd, [])] (by decide +kernel) (y := (27, [some (.ref a0), some (.int x1)], [.int (x1 + 1), .ref a0], h)) rfl ?_
      obtain ⟨r5, hr5, hF⟩ := ob_some hF
      refine en_vl (r := []) (by decide +kernel : u_at kl_266 27 = some (.invokevirtual 455, [263, 1, 12])) hW ha0 rfl rfl (Nat.le_of_ble_eq_true rfl) (e_263 (D := D) (by omega) hW ha0 hr5) (fun h hW => ?_)
      have hW : HW (mkw c0 c1 c2 c3 c4 c5 c6 c7 c8 c9 c10 c11 r5.2 c13) d h := hW
      refine en_segs [(30, .lconst 0, []), (31, .lcmp, [])] (by decide +kernel) (y := (32, [some (.ref a0), some (.int x1)], [.int (lg_cmp r5.1 0)], h)) rfl ?_
      refine en_if_ne (by decide +kernel : u_at kl_266 32 = some (.ifCond .ne 5, [37])) (fun b6 => ?_) (fun b6 => ?_)
      · replace hF := i_pos b6 hF
        refine en_segs [(35, .iload_n 1, [])] (by decide +kernel) (y := (36, [some (.ref a0), some (.int x1)], [.int x1], h)) rfl ?_
        obtain rfl := Option.some.inj hF
        exact en_ret (by decide +kernel : u_at kl_266 36 = some (.ireturn, [0])) rfl (hQ _ hW)
      · replace hF := i_neg b6 hF
        refine en_segs [(37, .iinc 1 1, []), (40, .goto (-29), [11])] (by decide +kernel) (y := (11, [some (.ref a0), some (.int (x1 + 1))], [], h)) rfl ?_
        exact (ih _ _ _ _ _ _ hF) _ rfl rfl rfl rfl  _ hW _ hQ
def F_266 (c12 : Cl) (a0 : Nat) : Option (Int32 × Cl) :=
  F_218 c12 a0 >>= fun r1 =>
  if r1 = 0 then
  some ((-1), c12)
  else
  G_266 a0 0 [0] [] [] c12
set_option maxRecDepth 100000 in
set_option maxHeartbeats 4000000 in
/-- HeadCountsModel.first -/
theorem e_266 {D : Nat} {c0 c1 c2 c3 c4 c5 c6 c7 c8 c9 c10 c11 c12 c13 : Cl} {d : Ad} {h : UH} {a0 : Nat} {r : (Int32 × Cl)} (hD : 7 ≤ D) (hW : HW (mkw c0 c1 c2 c3 c4 c5 c6 c7 c8 c9 c10 c11 c12 c13) d h) (ha0 : aK d a0 = (0, 12, 0)) (hF : F_266 c12 a0 = some r) : ∃ q, EX D 266 [.ref a0] h q ∧ q.1 = some (.int r.1) ∧ HW (mkw c0 c1 c2 c3 c4 c5 c6 c7 c8 c9 c10 c11 r.2 c13) d q.2 := by
  obtain ⟨D, rfl⟩ : ∃ E, D = E + 1 := ⟨D - 1, by omega⟩
  unfold F_266 at hF
  refine ex_in (kl := kl_266) (nL := 2) rfl (by decide +kernel) (Nat.le_of_ble_eq_true rfl) ?_
  obtain ⟨QQ, hQQ⟩ : ∃ QQ : UR → Prop, QQ = (fun q : UR => q.1 = some (.int r.1) ∧ HW (mkw c0 c1 c2 c3 c4 c5 c6 c7 c8 c9 c10 c11 r.2 c13) d q.2) := ⟨_, rfl⟩
  rw [← hQQ]
  have hQ : ∀ h' : UH, HW (mkw c0 c1 c2 c3 c4 c5 c6 c7 c8 c9 c10 c11 r.2 c13) d h' → QQ (some (.int r.1), h') := fun h' p => by rw [hQQ]; exact ⟨rfl, p⟩
  clear hQQ
  show Ends (EX D) (u_at kl_266) (0, [some (.ref a0), none], [], h) QQ
  refine en_segs [(0, .aload_n 0, [])] (by decide +kernel) (y := (1, [some (.ref a0), none], [.ref a0], h)) rfl ?_
  obtain ⟨r1, hr1, hF⟩ := ob_some hF
  refine en_vi (r := []) (by decide +kernel : u_at kl_266 1 = some (.invokevirtual 409, [218, 0, 12])) hW ha0 rfl rfl (Nat.le_of_ble_eq_true rfl) (e_218 (D := D) (by omega) hW ha0 hr1) (fun h' q => ?_)
  subst q
  refine en_if_ne (by decide +kernel : u_at kl_266 4 = some (.ifCond .ne 5, [9])) (fun b2 => ?_) (fun b2 => ?_)
  · replace hF := i_pos b2 hF
    refine en_segs [(7, .iconst (-1), [])] (by decide +kernel) (y := (8, [some (.ref a0), none], [.int (-1)], h)) rfl ?_
    obtain rfl := Option.some.inj hF
    exact en_ret (by decide +kernel : u_at kl_266 8 = some (.ireturn, [0])) rfl (hQ _ hW)
  · replace hF := i_neg b2 hF
    refine en_segs [(9, .iconst 0, []), (10, .istore_n 1, [])] (by decide +kernel) (y := (11, [some (.ref a0), some (.int 0)], [], h)) rfl ?_
    exact (g_266 (D := D) hD (d := d) ha0 _ _ _ _ _ _ hF) _ rfl rfl rfl rfl  _ hW _ hQ
def G_267 (a0 : Nat) (lab : Nat) (xs : List Int32) (ys : List Int64) (zs : List Nat) (c12 : Cl) : Option (Int32 × Cl) := match lab, xs, ys, zs with
  | 0, [x1, x2], [], [] =>
    if 25 ≤ x2 then
    G_267 a0 1 [x1, 0, 0] [] [] c12
    else
    ast c12 28 a0 25 x2 0 >>= fun c12_2 =>
    G_267 a0 0 [x1, x2 + 1] [] [] c12_2
  | 1, [x1, x2, x3], [], [] =>
    if 46656 ≤ x3 then
    some (x2, c12)
    else
    ldl (cB c12 26 a0) 46656 x3 >>= fun v4 =>
    if (lg_cmp v4 0) = 0 then
    G_267 a0 1 [x1, x2, x3 + 1] [] [] c12
    else
    F_255 c12 a0 x3 >>= fun r6 =>
    F_258 r6 a0 x1 >>= fun r7 =>
    ald (cA r6 28 a0) 25 r7 >>= fun v8 =>
    ast r6 28 a0 25 r7 (v8 + 1) >>= fun c12_9 =>
    ald (cA c12_9 28 a0) 25 r7 >>= fun v10 =>
    ((if v10 ≤ x2 then
    some x2
    else
    ald (cA c12_9 28 a0) 25 r7 >>= fun v14 =>
    some v14) : Option (Int32)) >>= fun (t11 : Int32) =>
    G_267 a0 1 [x1, t11, x3 + 1] [] [] c12_9
  | _, _, _, _ => none
partial_fixpoint
set_option maxRecDepth 100000 in
set_option maxHeartbeats 4000000 in
theorem g_267 {D : Nat} (hD : 4 ≤ D + 1) {c0 c1 c2 c3 c4 c5 c6 c7 c8 c9 c10 c11 c13 : Cl} {d : Ad} {a0 : Nat} (ha0 : aK d a0 = (0, 12, 0)) : ∀ (lab : Nat) (xs : List Int32) (ys : List Int64) (zs : List Nat) (c12 : Cl) (r : (Int32 × Cl)), G_267 a0 lab xs ys zs c12 = some r →
    (∀ (x1 : Int32) (x2 : Int32), lab = 0 → xs = [x1, x2] → ys = [] → zs = [] → ∀ h : UH, HW (mkw c0 c1 c2 c3 c4 c5 c6 c7 c8 c9 c10 c11 c12 c13) d h → ∀ QQ : UR → Prop, (∀ h' : UH, HW (mkw c0 c1 c2 c3 c4 c5 c6 c7 c8 c9 c10 c11 r.2 c13) d h' → QQ (some (.int r.1), h')) → Ends (EX D) (u_at kl_267) (2, [some (.ref a0), some (.int x1), some (.int x2), none, none], [], h) QQ) ∧
    (∀ (x1 : Int32) (x2 : Int32) (x3 : Int32), lab = 1 → xs = [x1, x2, x3] → ys = [] → zs = [] → ∀ h : UH, HW (mkw c0 c1 c2 c3 c4 c5 c6 c7 c8 c9 c10 c11 c12 c13) d h → ∀ QQ : UR → Prop, (∀ h' : UH, HW (mkw c0 c1 c2 c3 c4 c5 c6 c7 c8 c9 c10 c11 r.2 c13) d h' → QQ (some (.int r.1), h')) → Ends (EX D) (u_at kl_267) (25, [some (.ref a0), some (.int x1), some (.int x2), some (.int x3), none], [], h) QQ) := by
  refine G_267.partial_correctness _ (motive := fun lab xs ys zs c12 r =>
    (∀ (x1 : Int32) (x2 : Int32), lab = 0 → xs = [x1, x2] → ys = [] → zs = [] → ∀ h : UH, HW (mkw c0 c1 c2 c3 c4 c5 c6 c7 c8 c9 c10 c11 c12 c13) d h → ∀ QQ : UR → Prop, (∀ h' : UH, HW (mkw c0 c1 c2 c3 c4 c5 c6 c7 c8 c9 c10 c11 r.2 c13) d h' → QQ (some (.int r.1), h')) → Ends (EX D) (u_at kl_267) (2, [some (.ref a0), some (.int x1), some (.int x2), none, none], [], h) QQ) ∧
    (∀ (x1 : Int32) (x2 : Int32) (x3 : Int32), lab = 1 → xs = [x1, x2, x3] → ys = [] → zs = [] → ∀ h : UH, HW (mkw c0 c1 c2 c3 c4 c5 c6 c7 c8 c9 c10 c11 c12 c13) d h → ∀ QQ : UR → Prop, (∀ h' : UH, HW (mkw c0 c1 c2 c3 c4 c5 c6 c7 c8 c9 c10 c11 r.2 c13) d h' → QQ (some (.int r.1), h')) → Ends (EX D) (u_at kl_267) (25, [some (.ref a0), some (.int x1), some (.int x2), some (.int x3), none], [], h) QQ)) ?_
  intro G ih lab xs ys zs c12 r hF
  refine ⟨?_, ?_⟩
  · intro x1 x2 e1 e2 e3 e4 h hW QQ hQ
    subst e1 e2 e3 e4
    refine en_segs [(2, .iload_n 2, []), (3, .bipush 25, [])] (by decide +kernel) (y := (5, [some (.ref a0), some (.int x1), some (.int x2), none, none], [.int 25, .int x2], h)) rfl ?_
    refine en_ic_ge (by decide +kernel : u_at kl_267 5 = some (.if_icmp .ge 16, [21])) (fun b1 => ?_) (fun b1 => ?_)
    · replace hF := i_pos b1 hF
      refine en_segs [(21, .iconst 0, []), (22, .istore_n 2, []), (23, .iconst 0, []), (24, .istore_n 3, [])] (by decide +kernel) (y := (25, [some (.ref a0), some (.int x1), some (.int 0), some (.int 0), none], [], h)) rfl ?_
      exact (ih _ _ _ _ _ _ hF).2 _ _ _ rfl rfl rfl rfl  _ hW _ hQ
    · replace hF := i_neg b1 hF
      refine en_segs [(8, .aload_n 0, [])] (by decide +kernel) (y := (9, [some (.ref a0), some (.int x1), some (.int x2), none, none], [.ref a0], h)) rfl ?_
      refine en_get (by decide +kernel : u_at kl_267 9 = some (.getfield 58, [12, 28])) hW ha0 (by decide) rfl ?_
      refine en_segs [(12, .iload_n 2, []), (13, .iconst 0, [])] (by decide +kernel) (y := (14, [some (.ref a0), some (.int x1), some (.int x2), none, none], [.int 0, .int x2, .ref (aP d 12 28 a0)], h)) rfl ?_
      obtain ⟨c12_2, hc12_2, hF⟩ := ob_some hF
      refine en_iast (by decide +kernel : u_at kl_267 14 = some (.iastore, [])) hW ha0 rfl (by decide) hc12_2 (fun h hW => ?_)
      have hW : HW (mkw c0 c1 c2 c3 c4 c5 c6 c7 c8 c9 c10 c11 c12_2 c13) d h := hW
      refine en_segs [(15, .iinc 2 1, []), (18, .goto (-16), [2])] (by decide +kernel) (y := (2, [some (.ref a0), some (.int x1), some (.int (x2 + 1)), none, none], [], h)) rfl ?_
      exact (ih _ _ _ _ _ _ hF).1 _ _ rfl rfl rfl rfl  _ hW _ hQ
  · intro x1 x2 x3 e1 e2 e3 e4 h hW QQ hQ
    subst e1 e2 e3 e4
    refine en_segs [(25, .iload_n 3, []), (26, .ldc 51, [46656])] (by decide +kernel) (y := (28, [some (.ref a0), some (.int x1), some (.int x2), some (.int x3), none], [.int 46656, .int x3], h)) rfl ?_
    refine en_ic_ge (by decide +kernel : u_at kl_267 28 = some (.if_icmp .ge 69, [97])) (fun b3 => ?_) (fun b3 => ?_)
    · replace hF := i_pos b3 hF
      refine en_segs [(97, .iload_n 2, [])] (by decide +kernel) (y := (98, [some (.ref a0), some (.int x1), some (.int x2), some (.int x3), none], [.int x2], h)) rfl ?_
      obtain rfl := Option.some.inj hF
      exact en_ret (by decide +kernel : u_at kl_267 98 = some (.ireturn, [0])) rfl (hQ _ hW)
    · replace hF := i_neg b3 hF
      refine en_segs [(31, .aload_n 0, [])] (by decide +kernel) (y := (32, [some (.ref a0), some (.int x1), some (.int x2), some (.int x3), none], [.ref a0], h)) rfl ?_
      refine en_get (by decide +kernel : u_at kl_267 32 = some (.getfield 52, [12, 26])) hW ha0 (by decide) rfl ?_
      refine en_segs [(35, .iload_n 3, [])] (by decide +kernel) (y := (36, [some (.ref a0), some (.int x1), some (.int x2), some (.int x3), none], [.int x3, .ref (aP d 12 26 a0)], h)) rfl ?_
      obtain ⟨v4, hv4, hF⟩ := ob_some hF
      refine en_lald (by decide +kernel : u_at kl_267 36 = some (.laload, [])) hW ha0 rfl (by decide) hv4 ?_
      refine en_segs [(37, .lconst 0, []), (38, .lcmp, [])] (by decide +kernel) (y := (39, [some (.ref a0), some (.int x1), some (.int x2), some (.int x3), none], [.int (lg_cmp v4 0)], h)) rfl ?_
      refine en_if_ne (by decide +kernel : u_at kl_267 39 = some (.ifCond .ne 6, [45])) (fun b5 => ?_) (fun b5 => ?_)
      · replace hF := i_pos b5 hF
        refine en_segs [(42, .goto 49, [91]), (91, .iinc 3 1, []), (94, .goto (-69), [25])] (by decide +kernel) (y := (25, [some (.ref a0), some (.int x1), some (.int x2), some (.int (x3 + 1)), none], [], h)) rfl ?_
        exact (ih _ _ _ _ _ _ hF).2 _ _ _ rfl rfl rfl rfl  _ hW _ hQ
      · replace hF := i_neg b5 hF
        refine en_segs [(45, .aload_n 0, []), (46, .iload_n 3, [])] (by decide +kernel) (y := (47, [some (.ref a0), some (.int x1), some (.int x2), some (.int x3), none], [.int x3, .ref a0], h)) rfl ?_
        obtain ⟨r6, hr6, hF⟩ := ob_some hF
        refine en_vv (r := []) (by decide +kernel : u_at kl_267 47 = some (.invokevirtual 434, [255, 1, 12])) hW ha0 rfl rfl (Nat.le_of_ble_eq_true rfl) (e_255 (D := D) (by omega) hW ha0 hr6) (fun h hW => ?_)
        have hW : HW (mkw c0 c1 c2 c3 c4 c5 c6 c7 c8 c9 c10 c11 r6 c13) d h := hW
        refine en_segs [(50, .aload_n 0, []), (51, .iload_n 1, [])] (by decide +kernel) (y := (52, [some (.ref a0), some (.int x1), some (.int x2), some (.int x3), none], [.int x1, .ref a0], h)) rfl ?_
        obtain ⟨r7, hr7, hF⟩ := ob_some hF
        refine en_vi (r := []) (by decide +kernel : u_at kl_267 52 = some (.invokevirtual 437, [258, 1, 12])) hW ha0 rfl rfl (Nat.le_of_ble_eq_true rfl) (e_258 (D := D) (by omega) hW ha0 hr7) (fun h' q => ?_)
        subst q
        refine en_segs [(55, .istore 4, []), (57, .aload_n 0, [])] (by decide +kernel) (y := (58, [some (.ref a0), some (.int x1), some (.int x2), some (.int x3), some (.int r7)], [.ref a0], h)) rfl ?_
        refine en_get (by decide +kernel : u_at kl_267 58 = some (.getfield 58, [12, 28])) hW ha0 (by decide) rfl ?_
        refine en_segs [(61, .iload 4, []), (63, .dup2, [])] (by decide +kernel) (y := (64, [some (.ref a0), some (.int x1), some (.int x2), some (.int x3), some (.int r7)], [.int r7, .ref (aP d 12 28 a0), .int r7, .ref (aP d 12 28 a0)], h)) rfl ?_
        obtain ⟨v8, hv8, hF⟩ := ob_some hF
        refine en_iald (by decide +kernel : u_at kl_267 64 = some (.iaload, [])) hW ha0 rfl (by decide) hv8 ?_
        refine en_segs [(65, .iconst 1, []), (66, .iadd, [])] (by decide +kernel) (y := (67, [some (.ref a0), some (.int x1), some (.int x2), some (.int x3), some (.int r7)], [.int (v8 + 1), .int r7, .ref (aP d 12 28 a0)], h)) rfl ?_
        obtain ⟨c12_9, hc12_9, hF⟩ := ob_some hF
        refine en_iast (by decide +kernel : u_at kl_267 67 = some (.iastore, [])) hW ha0 rfl (by decide) hc12_9 (fun h hW => ?_)
        have hW : HW (mkw c0 c1 c2 c3 c4 c5 c6 c7 c8 c9 c10 c11 c12_9 c13) d h := hW
        refine en_segs [(68, .aload_n 0, [])] (by decide +kernel) (y := (69, [some (.ref a0), some (.int x1), some (.int x2), some (.int x3), some (.int r7)], [.ref a0], h)) rfl ?_
        refine en_get (by decide +kernel : u_at kl_267 69 = some (.getfield 58, [12, 28])) hW ha0 (by decide) rfl ?_
        refine en_segs [(72, .iload 4, [])] (by decide +kernel) (y := (74, [some (.ref a0), some (.int x1), some (.int x2), some (.int x3), some (.int r7)], [.int r7, .ref (aP d 12 28 a0)], h)) rfl ?_
        obtain ⟨v10, hv10, hF⟩ := ob_some hF
        refine en_iald (by decide +kernel : u_at kl_267 74 = some (.iaload, [])) hW ha0 rfl (by decide) hv10 ?_
        refine en_segs [(75, .iload_n 2, [])] (by decide +kernel) (y := (76, [some (.ref a0), some (.int x1), some (.int x2), some (.int x3), some (.int r7)], [.int x2, .int v10], h)) rfl ?_
        obtain ⟨t11, hX, hK⟩ := ob_some hF
        have j12 : ∀ h : UH, HW (mkw c0 c1 c2 c3 c4 c5 c6 c7 c8 c9 c10 c11 c12_9 c13) d h → Ends (EX D) (u_at kl_267) (90, [some (.ref a0), some (.int x1), some (.int x2), some (.int x3), some (.int r7)], [.int t11], h) QQ := by
          intro h hW
          have hF := hK
          refine en_segs [(90, .istore_n 2, []), (91, .iinc 3 1, []), (94, .goto (-69), [25])] (by decide +kernel) (y := (25, [some (.ref a0), some (.int x1), some (.int t11), some (.int (x3 + 1)), some (.int r7)], [], h)) rfl ?_
          refine en_fg (fg_k (fg_k (fg_k (fg_k (fg_d fg_0))))) ?_
          exact (ih _ _ _ _ _ _ hF).2 _ _ _ rfl rfl rfl rfl  _ hW _ hQ
        have hF := hX
        refine en_ic_le (by decide +kernel : u_at kl_267 76 = some (.if_icmp .le 13, [89])) (fun b13 => ?_) (fun b13 => ?_)
        · replace hF := i_pos b13 hF
          refine en_segs [(89, .iload_n 2, [])] (by decide +kernel) (y := (90, [some (.ref a0), some (.int x1), some (.int x2), some (.int x3), some (.int r7)], [.int x2], h)) rfl ?_
          obtain rfl := Option.some.inj hF
          exact j12 _ hW
        · replace hF := i_neg b13 hF
          refine en_segs [(79, .aload_n 0, [])] (by decide +kernel) (y := (80, [some (.ref a0), some (.int x1), some (.int x2), some (.int x3), some (.int r7)], [.ref a0], h)) rfl ?_
          refine en_get (by decide +kernel : u_at kl_267 80 = some (.getfield 58, [12, 28])) hW ha0 (by decide) rfl ?_
          refine en_segs [(83, .iload 4, [])] (by decide +kernel) (y := (85, [some (.ref a0), some (.int x1), some (.int x2), some (.int x3), some (.int r7)], [.int r7, .ref (aP d 12 28 a0)], h)) rfl ?_
          obtain ⟨v14, hv14, hF⟩ := ob_some hF
          refine en_iald (by decide +kernel : u_at kl_267 85 = some (.iaload, [])) hW ha0 rfl (by decide) hv14 ?_
          refine en_segs [(86, .goto 4, [90])] (by decide +kernel) (y := (90, [some (.ref a0), some (.int x1), some (.int x2), some (.int x3), some (.int r7)], [.int v14], h)) rfl ?_
          obtain rfl := Option.some.inj hF
          exact j12 _ hW
def F_267 (c12 : Cl) (a0 : Nat) (p1 : Int32) : Option (Int32 × Cl) :=
  G_267 a0 0 [p1, 0] [] [] c12
set_option maxRecDepth 100000 in
set_option maxHeartbeats 4000000 in
/-- HeadCountsModel.mostAlike -/
theorem e_267 {D : Nat} {c0 c1 c2 c3 c4 c5 c6 c7 c8 c9 c10 c11 c12 c13 : Cl} {d : Ad} {h : UH} {a0 : Nat} {p1 : Int32} {r : (Int32 × Cl)} (hD : 4 ≤ D) (hW : HW (mkw c0 c1 c2 c3 c4 c5 c6 c7 c8 c9 c10 c11 c12 c13) d h) (ha0 : aK d a0 = (0, 12, 0)) (hF : F_267 c12 a0 p1 = some r) : ∃ q, EX D 267 [.ref a0, .int p1] h q ∧ q.1 = some (.int r.1) ∧ HW (mkw c0 c1 c2 c3 c4 c5 c6 c7 c8 c9 c10 c11 r.2 c13) d q.2 := by
  obtain ⟨D, rfl⟩ : ∃ E, D = E + 1 := ⟨D - 1, by omega⟩
  unfold F_267 at hF
  refine ex_in (kl := kl_267) (nL := 5) rfl (by decide +kernel) (Nat.le_of_ble_eq_true rfl) ?_
  obtain ⟨QQ, hQQ⟩ : ∃ QQ : UR → Prop, QQ = (fun q : UR => q.1 = some (.int r.1) ∧ HW (mkw c0 c1 c2 c3 c4 c5 c6 c7 c8 c9 c10 c11 r.2 c13) d q.2) := ⟨_, rfl⟩
  rw [← hQQ]
  have hQ : ∀ h' : UH, HW (mkw c0 c1 c2 c3 c4 c5 c6 c7 c8 c9 c10 c11 r.2 c13) d h' → QQ (some (.int r.1), h') := fun h' p => by rw [hQQ]; exact ⟨rfl, p⟩
  clear hQQ
  show Ends (EX D) (u_at kl_267) (0, [some (.ref a0), some (.int p1), none, none, none], [], h) QQ
  refine en_segs [(0, .iconst 0, []), (1, .istore_n 2, [])] (by decide +kernel) (y := (2, [some (.ref a0), some (.int p1), some (.int 0), none, none], [], h)) rfl ?_
  exact (g_267 (D := D) hD (d := d) ha0 _ _ _ _ _ _ hF).1 _ _ rfl rfl rfl rfl  _ hW _ hQ
def G_268 (a0 : Nat) (lab : Nat) (xs : List Int32) (ys : List Int64) (zs : List Nat) (c12 : Cl) : Option (Int32 × Cl) := match lab, xs, ys, zs with
  | 0, [x1, x2, x3], [], [] =>
    if 46656 ≤ x3 then
    if x1 = 1 then
    some (x2, c12)
    else
    if x2 = 0 then
    some ((-2), c12)
    else
    F_267 c12 a0 0 >>= fun r10 =>
    G_268 a0 1 [x1, 0, r10.1, 1] [] [] r10.2
    else
    ldl (cB c12 26 a0) 46656 x3 >>= fun v11 =>
    ((if (lg_cmp v11 0) ≤ 0 then
    some 0
    else
    some 1) : Option (Int32)) >>= fun (t12 : Int32) =>
    G_268 a0 0 [x1, x2 + t12, x3 + 1] [] [] c12
  | 1, [x1, x3, x4, x5], [], [] =>
    ald (cA c12 20 a0) 221 0 >>= fun v15 =>
    if v15 ≤ x5 then
    ((if x1 = 0 then
    some x3
    else
    some x4) : Option (Int32)) >>= fun (t17 : Int32) =>
    some (t17, c12)
    else
    F_267 c12 a0 x5 >>= fun r20 =>
    ((if r20.1 < x4 then
    some (x5, r20.1)
    else
    some (x3, x4)) : Option (Int32 × Int32)) >>= fun (t21 : Int32 × Int32) =>
    G_268 a0 1 [x1, t21.1, t21.2, x5 + 1] [] [] r20.2
  | _, _, _, _ => none
partial_fixpoint
set_option maxRecDepth 100000 in
set_option maxHeartbeats 4000000 in
theorem g_268 {D : Nat} (hD : 7 ≤ D + 1) {c0 c1 c2 c3 c4 c5 c6 c7 c8 c9 c10 c11 c13 : Cl} {d : Ad} {a0 : Nat} (ha0 : aK d a0 = (0, 12, 0)) : ∀ (lab : Nat) (xs : List Int32) (ys : List Int64) (zs : List Nat) (c12 : Cl) (r : (Int32 × Cl)), G_268 a0 lab xs ys zs c12 = some r →
    (∀ (x1 : Int32) (x2 : Int32) (x3 : Int32), lab = 0 → xs = [x1, x2, x3] → ys = [] → zs = [] → ∀ h : UH, HW (mkw c0 c1 c2 c3 c4 c5 c6 c7 c8 c9 c10 c11 c12 c13) d h → ∀ QQ : UR → Prop, (∀ h' : UH, HW (mkw c0 c1 c2 c3 c4 c5 c6 c7 c8 c9 c10 c11 r.2 c13) d h' → QQ (some (.int r.1), h')) → Ends (EX D) (u_at kl_268) (38, [some (.ref a0), some (.int x1), some (.int x2), some (.int x3), none, none, none], [], h) QQ) ∧
    (∀ (x1 : Int32) (x3 : Int32) (x4 : Int32) (x5 : Int32), lab = 1 → xs = [x1, x3, x4, x5] → ys = [] → zs = [] → ∀ h : UH, HW (mkw c0 c1 c2 c3 c4 c5 c6 c7 c8 c9 c10 c11 c12 c13) d h → ∀ QQ : UR → Prop, (∀ h' : UH, HW (mkw c0 c1 c2 c3 c4 c5 c6 c7 c8 c9 c10 c11 r.2 c13) d h' → QQ (some (.int r.1), h')) → Ends (EX D) (u_at kl_268) (95, [some (.ref a0), some (.int x1), none, some (.int x3), some (.int x4), some (.int x5), none], [], h) QQ) := by
  refine G_268.partial_correctness _ (motive := fun lab xs ys zs c12 r =>
    (∀ (x1 : Int32) (x2 : Int32) (x3 : Int32), lab = 0 → xs = [x1, x2, x3] → ys = [] → zs = [] → ∀ h : UH, HW (mkw c0 c1 c2 c3 c4 c5 c6 c7 c8 c9 c10 c11 c12 c13) d h → ∀ QQ : UR → Prop, (∀ h' : UH, HW (mkw c0 c1 c2 c3 c4 c5 c6 c7 c8 c9 c10 c11 r.2 c13) d h' → QQ (some (.int r.1), h')) → Ends (EX D) (u_at kl_268) (38, [some (.ref a0), some (.int x1), some (.int x2), some (.int x3), none, none, none], [], h) QQ) ∧
    (∀ (x1 : Int32) (x3 : Int32) (x4 : Int32) (x5 : Int32), lab = 1 → xs = [x1, x3, x4, x5] → ys = [] → zs = [] → ∀ h : UH, HW (mkw c0 c1 c2 c3 c4 c5 c6 c7 c8 c9 c10 c11 c12 c13) d h → ∀ QQ : UR → Prop, (∀ h' : UH, HW (mkw c0 c1 c2 c3 c4 c5 c6 c7 c8 c9 c10 c11 r.2 c13) d h' → QQ (some (.int r.1), h')) → Ends (EX D) (u_at kl_268) (95, [some (.ref a0), some (.int x1), none, some (.int x3), some (.int x4), some (.int x5), none], [], h) QQ)) ?_
  intro G ih lab xs ys zs c12 r hF
  refine ⟨?_, ?_⟩
  · intro x1 x2 x3 e1 e2 e3 e4 h hW QQ hQ
    subst e1 e2 e3 e4
    refine en_segs [(38, .iload_n 3, []), (39, .ldc 51, [46656])] (by decide +kernel) (y := (41, [some (.ref a0), some (.int x1), some (.int x2), some (.int x3), none, none, none], [.int 46656, .int x3], h)) rfl ?_
    refine en_ic_ge (by decide +kernel : u_at kl_268 41 = some (.if_icmp .ge 28, [69])) (fun b7 => ?_) (fun b7 => ?_)
    · replace hF := i_pos b7 hF
      refine en_segs [(69, .iload_n 1, []), (70, .iconst 1, [])] (by decide +kernel) (y := (71, [some (.ref a0), some (.int x1), some (.int x2), some (.int x3), none, none, none], [.int 1, .int x1], h)) rfl ?_
      refine en_ic_ne (by decide +kernel : u_at kl_268 71 = some (.if_icmp .ne 5, [76])) (fun b8 => ?_) (fun b8 => ?_)
      · replace hF := i_pos b8 hF
        refine en_segs [(74, .iload_n 2, [])] (by decide +kernel) (y := (75, [some (.ref a0), some (.int x1), some (.int x2), some (.int x3), none, none, none], [.int x2], h)) rfl ?_
        obtain rfl := Option.some.inj hF
        exact en_ret (by decide +kernel : u_at kl_268 75 = some (.ireturn, [0])) rfl (hQ _ hW)
      · replace hF := i_neg b8 hF
        refine en_segs [(76, .iload_n 2, [])] (by decide +kernel) (y := (77, [some (.ref a0), some (.int x1), some (.int x2), some (.int x3), none, none, none], [.int x2], h)) rfl ?_
        refine en_if_ne (by decide +kernel : u_at kl_268 77 = some (.ifCond .ne 6, [83])) (fun b9 => ?_) (fun b9 => ?_)
        · replace hF := i_pos b9 hF
          refine en_segs [(80, .bipush (-2), [])] (by decide +kernel) (y := (82, [some (.ref a0), some (.int x1), some (.int x2), some (.int x3), none, none, none], [.int (-2)], h)) rfl ?_
          obtain rfl := Option.some.inj hF
          exact en_ret (by decide +kernel : u_at kl_268 82 = some (.ireturn, [0])) rfl (hQ _ hW)
        · replace hF := i_neg b9 hF
          refine en_segs [(83, .iconst 0, []), (84, .istore_n 3, []), (85, .aload_n 0, []), (86, .iconst 0, [])] (by decide +kernel) (y := (87, [some (.ref a0), some (.int x1), some (.int x2), some (.int 0), none, none, none], [.int 0, .ref a0], h)) rfl ?_
          obtain ⟨r10, hr10, hF⟩ := ob_some hF
          refine en_vi (r := []) (by decide +kernel : u_at kl_268 87 = some (.invokevirtual 461, [267, 1, 12])) hW ha0 rfl rfl (Nat.le_of_ble_eq_true rfl) (e_267 (D := D) (by omega) hW ha0 hr10) (fun h hW => ?_)
          have hW : HW (mkw c0 c1 c2 c3 c4 c5 c6 c7 c8 c9 c10 c11 r10.2 c13) d h := hW
          refine en_segs [(90, .istore 4, []), (92, .iconst 1, []), (93, .istore 5, [])] (by decide +kernel) (y := (95, [some (.ref a0), some (.int x1), some (.int x2), some (.int 0), some (.int r10.1), some (.int 1), none], [], h)) rfl ?_
          refine en_fg (fg_k (fg_k (fg_d (fg_k (fg_k (fg_k (fg_k fg_0))))))) ?_
          exact (ih _ _ _ _ _ _ hF).2 _ _ _ _ rfl rfl rfl rfl  _ hW _ hQ
    · replace hF := i_neg b7 hF
      refine en_segs [(44, .iload_n 2, []), (45, .aload_n 0, [])] (by decide +kernel) (y := (46, [some (.ref a0), some (.int x1), some (.int x2), some (.int x3), none, none, none], [.ref a0, .int x2], h)) rfl ?_
      refine en_get (by decide +kernel : u_at kl_268 46 = some (.getfield 52, [12, 26])) hW ha0 (by decide) rfl ?_
      refine en_segs [(49, .iload_n 3, [])] (by decide +kernel) (y := (50, [some (.ref a0), some (.int x1), some (.int x2), some (.int x3), none, none, none], [.int x3, .ref (aP d 12 26 a0), .int x2], h)) rfl ?_
      obtain ⟨v11, hv11, hF⟩ := ob_some hF
      refine en_lald (by decide +kernel : u_at kl_268 50 = some (.laload, [])) hW ha0 rfl (by decide) hv11 ?_
      refine en_segs [(51, .lconst 0, []), (52, .lcmp, [])] (by decide +kernel) (y := (53, [some (.ref a0), some (.int x1), some (.int x2), some (.int x3), none, none, none], [.int (lg_cmp v11 0), .int x2], h)) rfl ?_
      obtain ⟨t12, hX, hK⟩ := ob_some hF
      have j13 : ∀ h : UH, HW (mkw c0 c1 c2 c3 c4 c5 c6 c7 c8 c9 c10 c11 c12 c13) d h → Ends (EX D) (u_at kl_268) (61, [some (.ref a0), some (.int x1), some (.int x2), some (.int x3), none, none, none], [.int t12, .int x2], h) QQ := by
        intro h hW
        have hF := hK
        refine en_segs [(61, .iadd, []), (62, .istore_n 2, []), (63, .iinc 3 1, []), (66, .goto (-28), [38])] (by decide +kernel) (y := (38, [some (.ref a0), some (.int x1), some (.int (x2 + t12)), some (.int (x3 + 1)), none, none, none], [], h)) rfl ?_
        exact (ih _ _ _ _ _ _ hF).1 _ _ _ rfl rfl rfl rfl  _ hW _ hQ
      have hF := hX
      refine en_if_le (by decide +kernel : u_at kl_268 53 = some (.ifCond .le 7, [60])) (fun b14 => ?_) (fun b14 => ?_)
      · replace hF := i_pos b14 hF
        refine en_segs [(60, .iconst 0, [])] (by decide +kernel) (y := (61, [some (.ref a0), some (.int x1), some (.int x2), some (.int x3), none, none, none], [.int 0, .int x2], h)) rfl ?_
        obtain rfl := Option.some.inj hF
        exact j13 _ hW
      · replace hF := i_neg b14 hF
        refine en_segs [(56, .iconst 1, []), (57, .goto 4, [61])] (by decide +kernel) (y := (61, [some (.ref a0), some (.int x1), some (.int x2), some (.int x3), none, none, none], [.int 1, .int x2], h)) rfl ?_
        obtain rfl := Option.some.inj hF
        exact j13 _ hW
  · intro x1 x3 x4 x5 e1 e2 e3 e4 h hW QQ hQ
    subst e1 e2 e3 e4
    refine en_segs [(95, .iload 5, []), (97, .aload_n 0, [])] (by decide +kernel) (y := (98, [some (.ref a0), some (.int x1), none, some (.int x3), some (.int x4), some (.int x5), none], [.ref a0, .int x5], h)) rfl ?_
    refine en_get (by decide +kernel : u_at kl_268 98 = some (.getfield 39, [12, 20])) hW ha0 (by decide) rfl ?_
    refine en_segs [(101, .iconst 0, [])] (by decide +kernel) (y := (102, [some (.ref a0), some (.int x1), none, some (.int x3), some (.int x4), some (.int x5), none], [.int 0, .ref (aP d 12 20 a0), .int x5], h)) rfl ?_
    obtain ⟨v15, hv15, hF⟩ := ob_some hF
    refine en_iald (by decide +kernel : u_at kl_268 102 = some (.iaload, [])) hW ha0 rfl (by decide) hv15 ?_
    refine en_ic_ge (by decide +kernel : u_at kl_268 103 = some (.if_icmp .ge 34, [137])) (fun b16 => ?_) (fun b16 => ?_)
    · replace hF := i_pos b16 hF
      refine en_segs [(137, .iload_n 1, [])] (by decide +kernel) (y := (138, [some (.ref a0), some (.int x1), none, some (.int x3), some (.int x4), some (.int x5), none], [.int x1], h)) rfl ?_
      obtain ⟨t17, hX, hK⟩ := ob_some hF
      have j18 : ∀ h : UH, HW (mkw c0 c1 c2 c3 c4 c5 c6 c7 c8 c9 c10 c11 c12 c13) d h → Ends (EX D) (u_at kl_268) (147, [some (.ref a0), some (.int x1), none, some (.int x3), some (.int x4), some (.int x5), none], [.int t17], h) QQ := by
        intro h hW
        have hF := hK
        obtain rfl := Option.some.inj hF
        exact en_ret (by decide +kernel : u_at kl_268 147 = some (.ireturn, [0])) rfl (hQ _ hW)
      have hF := hX
      refine en_if_ne (by decide +kernel : u_at kl_268 138 = some (.ifCond .ne 7, [145])) (fun b19 => ?_) (fun b19 => ?_)
      · replace hF := i_pos b19 hF
        refine en_segs [(141, .iload_n 3, []), (142, .goto 5, [147])] (by decide +kernel) (y := (147, [some (.ref a0), some (.int x1), none, some (.int x3), some (.int x4), some (.int x5), none], [.int x3], h)) rfl ?_
        obtain rfl := Option.some.inj hF
        exact j18 _ hW
      · replace hF := i_neg b19 hF
        refine en_segs [(145, .iload 4, [])] (by decide +kernel) (y := (147, [some (.ref a0), some (.int x1), none, some (.int x3), some (.int x4), some (.int x5), none], [.int x4], h)) rfl ?_
        obtain rfl := Option.some.inj hF
        exact j18 _ hW
    · replace hF := i_neg b16 hF
      refine en_segs [(106, .aload_n 0, []), (107, .iload 5, [])] (by decide +kernel) (y := (109, [some (.ref a0), some (.int x1), none, some (.int x3), some (.int x4), some (.int x5), none], [.int x5, .ref a0], h)) rfl ?_
      obtain ⟨r20, hr20, hF⟩ := ob_some hF
      refine en_vi (r := []) (by decide +kernel : u_at kl_268 109 = some (.invokevirtual 461, [267, 1, 12])) hW ha0 rfl rfl (Nat.le_of_ble_eq_true rfl) (e_267 (D := D) (by omega) hW ha0 hr20) (fun h hW => ?_)
      have hW : HW (mkw c0 c1 c2 c3 c4 c5 c6 c7 c8 c9 c10 c11 r20.2 c13) d h := hW
      refine en_segs [(112, .istore 6, []), (114, .iload 6, []), (116, .iload 4, [])] (by decide +kernel) (y := (118, [some (.ref a0), some (.int x1), none, some (.int x3), some (.int x4), some (.int x5), some (.int r20.1)], [.int x4, .int r20.1], h)) rfl ?_
      obtain ⟨t21, hX, hK⟩ := ob_some hF
      have j22 : ∀ h : UH, HW (mkw c0 c1 c2 c3 c4 c5 c6 c7 c8 c9 c10 c11 r20.2 c13) d h → Ends (EX D) (u_at kl_268) (131, [some (.ref a0), some (.int x1), none, some (.int t21.1), some (.int t21.2), some (.int x5), some (.int r20.1)], [], h) QQ := by
        intro h hW
        have hF := hK
        refine en_segs [(131, .iinc 5 1, []), (134, .goto (-39), [95])] (by decide +kernel) (y := (95, [some (.ref a0), some (.int x1), none, some (.int t21.1), some (.int t21.2), some (.int (x5 + 1)), some (.int r20.1)], [], h)) rfl ?_
        refine en_fg (fg_k (fg_k (fg_k (fg_k (fg_k (fg_k (fg_d fg_0))))))) ?_
        exact (ih _ _ _ _ _ _ hF).2 _ _ _ _ rfl rfl rfl rfl  _ hW _ hQ
      have hF := hX
      refine en_ic_lt (by decide +kernel : u_at kl_268 118 = some (.if_icmp .lt 6, [124])) (fun b23 => ?_) (fun b23 => ?_)
      · replace hF := i_pos b23 hF
        refine en_segs [(124, .iload 5, []), (126, .istore_n 3, []), (127, .iload 6, []), (129, .istore 4, [])] (by decide +kernel) (y := (131, [some (.ref a0), some (.int x1), none, some (.int x5), some (.int r20.1), some (.int x5), some (.int r20.1)], [], h)) rfl ?_
        obtain rfl := Option.some.inj hF
        exact j22 _ hW
      · replace hF := i_neg b23 hF
        refine en_segs [(121, .goto 10, [131])] (by decide +kernel) (y := (131, [some (.ref a0), some (.int x1), none, some (.int x3), some (.int x4), some (.int x5), some (.int r20.1)], [], h)) rfl ?_
        obtain rfl := Option.some.inj hF
        exact j22 _ hW
def F_268 (c12 : Cl) (a0 : Nat) (p1 : Int32) : Option (Int32 × Cl) :=
  F_218 c12 a0 >>= fun r1 =>
  if r1 = 0 then
  some ((-1), c12)
  else
  F_170 ((p1 : Int32).toInt64) 0 2 >>= fun r3 =>
  if r3 = 0 then
  some ((-1), c12)
  else
  ald (cA c12 20 a0) 221 220 >>= fun v5 =>
  F_263 c12 a0 v5 >>= fun r6 =>
  G_268 a0 0 [p1, 0, 0] [] [] r6.2
set_option maxRecDepth 100000 in
set_option maxHeartbeats 4000000 in
/-- HeadCountsModel.next -/
theorem e_268 {D : Nat} {c0 c1 c2 c3 c4 c5 c6 c7 c8 c9 c10 c11 c12 c13 : Cl} {d : Ad} {h : UH} {a0 : Nat} {p1 : Int32} {r : (Int32 × Cl)} (hD : 7 ≤ D) (hW : HW (mkw c0 c1 c2 c3 c4 c5 c6 c7 c8 c9 c10 c11 c12 c13) d h) (ha0 : aK d a0 = (0, 12, 0)) (hF : F_268 c12 a0 p1 = some r) : ∃ q, EX D 268 [.ref a0, .int p1] h q ∧ q.1 = some (.int r.1) ∧ HW (mkw c0 c1 c2 c3 c4 c5 c6 c7 c8 c9 c10 c11 r.2 c13) d q.2 := by
  obtain ⟨D, rfl⟩ : ∃ E, D = E + 1 := ⟨D - 1, by omega⟩
  unfold F_268 at hF
  refine ex_in (kl := kl_268) (nL := 7) rfl (by decide +kernel) (Nat.le_of_ble_eq_true rfl) ?_
  obtain ⟨QQ, hQQ⟩ : ∃ QQ : UR → Prop, QQ = (fun q : UR => q.1 = some (.int r.1) ∧ HW (mkw c0 c1 c2 c3 c4 c5 c6 c7 c8 c9 c10 c11 r.2 c13) d q.2) := ⟨_, rfl⟩
  rw [← hQQ]
  have hQ : ∀ h' : UH, HW (mkw c0 c1 c2 c3 c4 c5 c6 c7 c8 c9 c10 c11 r.2 c13) d h' → QQ (some (.int r.1), h') := fun h' p => by rw [hQQ]; exact ⟨rfl, p⟩
  clear hQQ
  show Ends (EX D) (u_at kl_268) (0, [some (.ref a0), some (.int p1), none, none, none, none, none], [], h) QQ
  refine en_segs [(0, .aload_n 0, [])] (by decide +kernel) (y := (1, [some (.ref a0), some (.int p1), none, none, none, none, none], [.ref a0], h)) rfl ?_
  obtain ⟨r1, hr1, hF⟩ := ob_some hF
  refine en_vi (r := []) (by decide +kernel : u_at kl_268 1 = some (.invokevirtual 409, [218, 0, 12])) hW ha0 rfl rfl (Nat.le_of_ble_eq_true rfl) (e_218 (D := D) (by omega) hW ha0 hr1) (fun h' q => ?_)
  subst q
  refine en_if_eq (by decide +kernel : u_at kl_268 4 = some (.ifCond .eq 15, [19])) (fun b2 => ?_) (fun b2 => ?_)
  · replace hF := i_pos b2 hF
    refine en_segs [(19, .iconst (-1), [])] (by decide +kernel) (y := (20, [some (.ref a0), some (.int p1), none, none, none, none, none], [.int (-1)], h)) rfl ?_
    obtain rfl := Option.some.inj hF
    exact en_ret (by decide +kernel : u_at kl_268 20 = some (.ireturn, [0])) rfl (hQ _ hW)
  · replace hF := i_neg b2 hF
    refine en_segs [(7, .iload_n 1, []), (8, .i2l, []), (9, .lconst 0, []), (10, .ldc2_w 384, [2])] (by decide +kernel) (y := (13, [some (.ref a0), some (.int p1), none, none, none, none, none], [.long 2, .long 0, .long ((p1 : Int32).toInt64)], h)) rfl ?_
    obtain ⟨r3, hr3, hF⟩ := ob_some hF
    refine en_si (r := []) (by decide +kernel : u_at kl_268 13 = some (.invokestatic 161, [170, 3])) rfl rfl (Nat.le_of_ble_eq_true rfl) (e_170 (D := D) (by omega) hW hr3) (fun h' q => ?_)
    subst q
    refine en_if_ne (by decide +kernel : u_at kl_268 16 = some (.ifCond .ne 5, [21])) (fun b4 => ?_) (fun b4 => ?_)
    · replace hF := i_pos b4 hF
      refine en_segs [(19, .iconst (-1), [])] (by decide +kernel) (y := (20, [some (.ref a0), some (.int p1), none, none, none, none, none], [.int (-1)], h)) rfl ?_
      obtain rfl := Option.some.inj hF
      exact en_ret (by decide +kernel : u_at kl_268 20 = some (.ireturn, [0])) rfl (hQ _ hW)
    · replace hF := i_neg b4 hF
      refine en_segs [(21, .aload_n 0, []), (22, .aload_n 0, [])] (by decide +kernel) (y := (23, [some (.ref a0), some (.int p1), none, none, none, none, none], [.ref a0, .ref a0], h)) rfl ?_
      refine en_get (by decide +kernel : u_at kl_268 23 = some (.getfield 39, [12, 20])) hW ha0 (by decide) rfl ?_
      refine en_segs [(26, .sipush 220, [])] (by decide +kernel) (y := (29, [some (.ref a0), some (.int p1), none, none, none, none, none], [.int 220, .ref (aP d 12 20 a0), .ref a0], h)) rfl ?_
      obtain ⟨v5, hv5, hF⟩ := ob_some hF
      refine en_iald (by decide +kernel : u_at kl_268 29 = some (.iaload, [])) hW ha0 rfl (by decide) hv5 ?_
      obtain ⟨r6, hr6, hF⟩ := ob_some hF
      refine en_vl (r := []) (by decide +kernel : u_at kl_268 30 = some (.invokevirtual 455, [263, 1, 12])) hW ha0 rfl rfl (Nat.le_of_ble_eq_true rfl) (e_263 (D := D) (by omega) hW ha0 hr6) (fun h hW => ?_)
      have hW : HW (mkw c0 c1 c2 c3 c4 c5 c6 c7 c8 c9 c10 c11 r6.2 c13) d h := hW
      refine en_segs [(33, .pop2, []), (34, .iconst 0, []), (35, .istore_n 2, []), (36, .iconst 0, []), (37, .istore_n 3, [])] (by decide +kernel) (y := (38, [some (.ref a0), some (.int p1), some (.int 0), some (.int 0), none, none, none], [], h)) rfl ?_
      exact (g_268 (D := D) hD (d := d) ha0 _ _ _ _ _ _ hF).1 _ _ _ rfl rfl rfl rfl  _ hW _ hQ
def G_269 (a0 : Nat) (lab : Nat) (xs : List Int32) (ys : List Int64) (zs : List Nat) (c12 : Cl) : Option Cl := match lab, xs, ys, zs with
  | 0, [x1], [], [] =>
    ald (cA c12 20 a0) 221 2 >>= fun v4 =>
    if v4 ≤ x1 then
    some c12
    else
    G_269 a0 1 [x1, 0] [] [] c12
  | 1, [x1, x2], [], [] =>
    ald (cA c12 20 a0) 221 0 >>= fun v6 =>
    if v6 ≤ x2 then
    G_269 a0 0 [x1 + 1] [] [] c12
    else
    F_260 c12 a0 x1 x2 >>= fun r8 =>
    ((if r8 = 0 then
    some c12
    else
    ast c12 29 a0 30 (cI c12 31 a0) x1 >>= fun c12_12 =>
    ast c12_12 30 a0 30 (cI c12_12 31 a0) x2 >>= fun c12_13 =>
    some (sI c12_13 31 a0 ((cI c12_13 31 a0) + 1)) >>= fun c12_14 =>
    some c12_14) : Option (Cl)) >>= fun (t9 : Cl) =>
    G_269 a0 1 [x1, x2 + 1] [] [] t9
  | _, _, _, _ => none
partial_fixpoint
set_option maxRecDepth 100000 in
set_option maxHeartbeats 4000000 in
theorem g_269 {D : Nat} (hD : 5 ≤ D + 1) {c0 c1 c2 c3 c4 c5 c6 c7 c8 c9 c10 c11 c13 : Cl} {d : Ad} {a0 : Nat} (ha0 : aK d a0 = (0, 12, 0)) : ∀ (lab : Nat) (xs : List Int32) (ys : List Int64) (zs : List Nat) (c12 : Cl) (r : Cl), G_269 a0 lab xs ys zs c12 = some r →
    (∀ (x1 : Int32), lab = 0 → xs = [x1] → ys = [] → zs = [] → ∀ h : UH, HW (mkw c0 c1 c2 c3 c4 c5 c6 c7 c8 c9 c10 c11 c12 c13) d h → ∀ QQ : UR → Prop, (∀ h' : UH, HW (mkw c0 c1 c2 c3 c4 c5 c6 c7 c8 c9 c10 c11 r c13) d h' → QQ (none, h')) → Ends (EX D) (u_at kl_269) (15, [some (.ref a0), some (.int x1), none], [], h) QQ) ∧
    (∀ (x1 : Int32) (x2 : Int32), lab = 1 → xs = [x1, x2] → ys = [] → zs = [] → ∀ h : UH, HW (mkw c0 c1 c2 c3 c4 c5 c6 c7 c8 c9 c10 c11 c12 c13) d h → ∀ QQ : UR → Prop, (∀ h' : UH, HW (mkw c0 c1 c2 c3 c4 c5 c6 c7 c8 c9 c10 c11 r c13) d h' → QQ (none, h')) → Ends (EX D) (u_at kl_269) (27, [some (.ref a0), some (.int x1), some (.int x2)], [], h) QQ) := by
  refine G_269.partial_correctness _ (motive := fun lab xs ys zs c12 r =>
    (∀ (x1 : Int32), lab = 0 → xs = [x1] → ys = [] → zs = [] → ∀ h : UH, HW (mkw c0 c1 c2 c3 c4 c5 c6 c7 c8 c9 c10 c11 c12 c13) d h → ∀ QQ : UR → Prop, (∀ h' : UH, HW (mkw c0 c1 c2 c3 c4 c5 c6 c7 c8 c9 c10 c11 r c13) d h' → QQ (none, h')) → Ends (EX D) (u_at kl_269) (15, [some (.ref a0), some (.int x1), none], [], h) QQ) ∧
    (∀ (x1 : Int32) (x2 : Int32), lab = 1 → xs = [x1, x2] → ys = [] → zs = [] → ∀ h : UH, HW (mkw c0 c1 c2 c3 c4 c5 c6 c7 c8 c9 c10 c11 c12 c13) d h → ∀ QQ : UR → Prop, (∀ h' : UH, HW (mkw c0 c1 c2 c3 c4 c5 c6 c7 c8 c9 c10 c11 r c13) d h' → QQ (none, h')) → Ends (EX D) (u_at kl_269) (27, [some (.ref a0), some (.int x1), some (.int x2)], [], h) QQ)) ?_
  intro G ih lab xs ys zs c12 r hF
  refine ⟨?_, ?_⟩
  · intro x1 e1 e2 e3 e4 h hW QQ hQ
    subst e1 e2 e3 e4
    refine en_segs [(15, .iload_n 1, []), (16, .aload_n 0, [])] (by decide +kernel) (y := (17, [some (.ref a0), some (.int x1), none], [.ref a0, .int x1], h)) rfl ?_
    refine en_get (by decide +kernel : u_at kl_269 17 = some (.getfield 39, [12, 20])) hW ha0 (by decide) rfl ?_
    refine en_segs [(20, .iconst 2, [])] (by decide +kernel) (y := (21, [some (.ref a0), some (.int x1), none], [.int 2, .ref (aP d 12 20 a0), .int x1], h)) rfl ?_
    obtain ⟨v4, hv4, hF⟩ := ob_some hF
    refine en_iald (by decide +kernel : u_at kl_269 21 = some (.iaload, [])) hW ha0 rfl (by decide) hv4 ?_
    refine en_ic_ge (by decide +kernel : u_at kl_269 22 = some (.if_icmp .ge 69, [91])) (fun b5 => ?_) (fun b5 => ?_)
    · replace hF := i_pos b5 hF
      obtain rfl := Option.some.inj hF
      exact en_ret (by decide +kernel : u_at kl_269 91 = some (.return_, [])) rfl (hQ _ hW)
    · replace hF := i_neg b5 hF
      refine en_segs [(25, .iconst 0, []), (26, .istore_n 2, [])] (by decide +kernel) (y := (27, [some (.ref a0), some (.int x1), some (.int 0)], [], h)) rfl ?_
      exact (ih _ _ _ _ _ _ hF).2 _ _ rfl rfl rfl rfl  _ hW _ hQ
  · intro x1 x2 e1 e2 e3 e4 h hW QQ hQ
    subst e1 e2 e3 e4
    refine en_segs [(27, .iload_n 2, []), (28, .aload_n 0, [])] (by decide +kernel) (y := (29, [some (.ref a0), some (.int x1), some (.int x2)], [.ref a0, .int x2], h)) rfl ?_
    refine en_get (by decide +kernel : u_at kl_269 29 = some (.getfield 39, [12, 20])) hW ha0 (by decide) rfl ?_
    refine en_segs [(32, .iconst 0, [])] (by decide +kernel) (y := (33, [some (.ref a0), some (.int x1), some (.int x2)], [.int 0, .ref (aP d 12 20 a0), .int x2], h)) rfl ?_
    obtain ⟨v6, hv6, hF⟩ := ob_some hF
    refine en_iald (by decide +kernel : u_at kl_269 33 = some (.iaload, [])) hW ha0 rfl (by decide) hv6 ?_
    refine en_ic_ge (by decide +kernel : u_at kl_269 34 = some (.if_icmp .ge 51, [85])) (fun b7 => ?_) (fun b7 => ?_)
    · replace hF := i_pos b7 hF
      refine en_segs [(85, .iinc 1 1, []), (88, .goto (-73), [15])] (by decide +kernel) (y := (15, [some (.ref a0), some (.int (x1 + 1)), some (.int x2)], [], h)) rfl ?_
      refine en_fg (fg_k (fg_k (fg_d fg_0))) ?_
      exact (ih _ _ _ _ _ _ hF).1 _ rfl rfl rfl rfl  _ hW _ hQ
    · replace hF := i_neg b7 hF
      refine en_segs [(37, .aload_n 0, []), (38, .iload_n 1, []), (39, .iload_n 2, [])] (by decide +kernel) (y := (40, [some (.ref a0), some (.int x1), some (.int x2)], [.int x2, .int x1, .ref a0], h)) rfl ?_
      obtain ⟨r8, hr8, hF⟩ := ob_some hF
      refine en_vi (r := []) (by decide +kernel : u_at kl_269 40 = some (.invokevirtual 443, [260, 2, 12])) hW ha0 rfl rfl (Nat.le_of_ble_eq_true rfl) (e_260 (D := D) (by omega) hW ha0 hr8) (fun h' q => ?_)
      subst q
      obtain ⟨t9, hX, hK⟩ := ob_some hF
      have j10 : ∀ h : UH, HW (mkw c0 c1 c2 c3 c4 c5 c6 c7 c8 c9 c10 c11 t9 c13) d h → Ends (EX D) (u_at kl_269) (79, [some (.ref a0), some (.int x1), some (.int x2)], [], h) QQ := by
        intro h hW
        have hF := hK
        refine en_segs [(79, .iinc 2 1, []), (82, .goto (-55), [27])] (by decide +kernel) (y := (27, [some (.ref a0), some (.int x1), some (.int (x2 + 1))], [], h)) rfl ?_
        exact (ih _ _ _ _ _ _ hF).2 _ _ rfl rfl rfl rfl  _ hW _ hQ
      have hF := hX
      refine en_if_ne (by decide +kernel : u_at kl_269 43 = some (.ifCond .ne 6, [49])) (fun b11 => ?_) (fun b11 => ?_)
      · replace hF := i_pos b11 hF
        refine en_segs [(46, .goto 33, [79])] (by decide +kernel) (y := (79, [some (.ref a0), some (.int x1), some (.int x2)], [], h)) rfl ?_
        obtain rfl := Option.some.inj hF
        exact j10 _ hW
      · replace hF := i_neg b11 hF
        refine en_segs [(49, .aload_n 0, [])] (by decide +kernel) (y := (50, [some (.ref a0), some (.int x1), some (.int x2)], [.ref a0], h)) rfl ?_
        refine en_get (by decide +kernel : u_at kl_269 50 = some (.getfield 61, [12, 29])) hW ha0 (by decide) rfl ?_
        refine en_segs [(53, .aload_n 0, [])] (by decide +kernel) (y := (54, [some (.ref a0), some (.int x1), some (.int x2)], [.ref a0, .ref (aP d 12 29 a0)], h)) rfl ?_
        refine en_get (by decide +kernel : u_at kl_269 54 = some (.getfield 464, [12, 31])) hW ha0 (by decide) rfl ?_
        refine en_segs [(57, .iload_n 1, [])] (by decide +kernel) (y := (58, [some (.ref a0), some (.int x1), some (.int x2)], [.int x1, .int (cI c12 31 a0), .ref (aP d 12 29 a0)], h)) rfl ?_
        obtain ⟨c12_12, hc12_12, hF⟩ := ob_some hF
        refine en_iast (by decide +kernel : u_at kl_269 58 = some (.iastore, [])) hW ha0 rfl (by decide) hc12_12 (fun h hW => ?_)
        have hW : HW (mkw c0 c1 c2 c3 c4 c5 c6 c7 c8 c9 c10 c11 c12_12 c13) d h := hW
        refine en_segs [(59, .aload_n 0, [])] (by decide +kernel) (y := (60, [some (.ref a0), some (.int x1), some (.int x2)], [.ref a0], h)) rfl ?_
        refine en_get (by decide +kernel : u_at kl_269 60 = some (.getfield 64, [12, 30])) hW ha0 (by decide) rfl ?_
        refine en_segs [(63, .aload_n 0, [])] (by decide +kernel) (y := (64, [some (.ref a0), some (.int x1), some (.int x2)], [.ref a0, .ref (aP d 12 30 a0)], h)) rfl ?_
        refine en_get (by decide +kernel : u_at kl_269 64 = some (.getfield 464, [12, 31])) hW ha0 (by decide) rfl ?_
        refine en_segs [(67, .iload_n 2, [])] (by decide +kernel) (y := (68, [some (.ref a0), some (.int x1), some (.int x2)], [.int x2, .int (cI c12_12 31 a0), .ref (aP d 12 30 a0)], h)) rfl ?_
        obtain ⟨c12_13, hc12_13, hF⟩ := ob_some hF
        refine en_iast (by decide +kernel : u_at kl_269 68 = some (.iastore, [])) hW ha0 rfl (by decide) hc12_13 (fun h hW => ?_)
        have hW : HW (mkw c0 c1 c2 c3 c4 c5 c6 c7 c8 c9 c10 c11 c12_13 c13) d h := hW
        refine en_segs [(69, .aload_n 0, []), (70, .dup, [])] (by decide +kernel) (y := (71, [some (.ref a0), some (.int x1), some (.int x2)], [.ref a0, .ref a0], h)) rfl ?_
        refine en_get (by decide +kernel : u_at kl_269 71 = some (.getfield 464, [12, 31])) hW ha0 (by decide) rfl ?_
        refine en_segs [(74, .iconst 1, []), (75, .iadd, [])] (by decide +kernel) (y := (76, [some (.ref a0), some (.int x1), some (.int x2)], [.int ((cI c12_13 31 a0) + 1), .ref a0], h)) rfl ?_
        obtain ⟨c12_14, hc12_14, hF⟩ := ob_some hF
        refine en_putI (by decide +kernel : u_at kl_269 76 = some (.putfield 464, [12, 31, 0])) hW ha0 rfl (by decide) rfl (fun h hW => ?_)
        have hW : HW (mkw c0 c1 c2 c3 c4 c5 c6 c7 c8 c9 c10 c11 c12_14 c13) d h := by rw [← Option.some.inj hc12_14]; exact hW
        obtain rfl := Option.some.inj hF
        exact j10 _ hW
def F_269 (c12 : Cl) (a0 : Nat) : Option Cl :=
  F_256 c12 a0 >>= fun r1 =>
  F_255 c12 a0 r1 >>= fun r2 =>
  some (sI r2 31 a0 0) >>= fun c12_3 =>
  G_269 a0 0 [0] [] [] c12_3
set_option maxRecDepth 100000 in
set_option maxHeartbeats 4000000 in
/-- HeadCountsModel.gathersGoings -/
theorem e_269 {D : Nat} {c0 c1 c2 c3 c4 c5 c6 c7 c8 c9 c10 c11 c12 c13 : Cl} {d : Ad} {h : UH} {a0 : Nat} {r : Cl} (hD : 5 ≤ D) (hW : HW (mkw c0 c1 c2 c3 c4 c5 c6 c7 c8 c9 c10 c11 c12 c13) d h) (ha0 : aK d a0 = (0, 12, 0)) (hF : F_269 c12 a0 = some r) : ∃ q, EX D 269 [.ref a0] h q ∧ q.1 = none ∧ HW (mkw c0 c1 c2 c3 c4 c5 c6 c7 c8 c9 c10 c11 r c13) d q.2 := by
  obtain ⟨D, rfl⟩ : ∃ E, D = E + 1 := ⟨D - 1, by omega⟩
  unfold F_269 at hF
  refine ex_in (kl := kl_269) (nL := 3) rfl (by decide +kernel) (Nat.le_of_ble_eq_true rfl) ?_
  obtain ⟨QQ, hQQ⟩ : ∃ QQ : UR → Prop, QQ = (fun q : UR => q.1 = none ∧ HW (mkw c0 c1 c2 c3 c4 c5 c6 c7 c8 c9 c10 c11 r c13) d q.2) := ⟨_, rfl⟩
  rw [← hQQ]
  have hQ : ∀ h' : UH, HW (mkw c0 c1 c2 c3 c4 c5 c6 c7 c8 c9 c10 c11 r c13) d h' → QQ (none, h') := fun h' p => by rw [hQQ]; exact ⟨rfl, p⟩
  clear hQQ
  show Ends (EX D) (u_at kl_269) (0, [some (.ref a0), none, none], [], h) QQ
  refine en_segs [(0, .aload_n 0, []), (1, .aload_n 0, [])] (by decide +kernel) (y := (2, [some (.ref a0), none, none], [.ref a0, .ref a0], h)) rfl ?_
  obtain ⟨r1, hr1, hF⟩ := ob_some hF
  refine en_vi (r := [.ref a0]) (by decide +kernel : u_at kl_269 2 = some (.invokevirtual 446, [256, 0, 12])) hW ha0 rfl rfl (Nat.le_of_ble_eq_true rfl) (e_256 (D := D) (by omega) hW ha0 hr1) (fun h' q => ?_)
  subst q
  obtain ⟨r2, hr2, hF⟩ := ob_some hF
  refine en_vv (r := []) (by decide +kernel : u_at kl_269 5 = some (.invokevirtual 434, [255, 1, 12])) hW ha0 rfl rfl (Nat.le_of_ble_eq_true rfl) (e_255 (D := D) (by omega) hW ha0 hr2) (fun h hW => ?_)
  have hW : HW (mkw c0 c1 c2 c3 c4 c5 c6 c7 c8 c9 c10 c11 r2 c13) d h := hW
  refine en_segs [(8, .aload_n 0, []), (9, .iconst 0, [])] (by decide +kernel) (y := (10, [some (.ref a0), none, none], [.int 0, .ref a0], h)) rfl ?_
  obtain ⟨c12_3, hc12_3, hF⟩ := ob_some hF
  refine en_putI (by decide +kernel : u_at kl_269 10 = some (.putfield 464, [12, 31, 0])) hW ha0 rfl (by decide) rfl (fun h hW => ?_)
  have hW : HW (mkw c0 c1 c2 c3 c4 c5 c6 c7 c8 c9 c10 c11 c12_3 c13) d h := by rw [← Option.some.inj hc12_3]; exact hW
  refine en_segs [(13, .iconst 0, []), (14, .istore_n 1, [])] (by decide +kernel) (y := (15, [some (.ref a0), some (.int 0), none], [], h)) rfl ?_
  exact (g_269 (D := D) hD (d := d) ha0 _ _ _ _ _ _ hF).1 _ rfl rfl rfl rfl  _ hW _ hQ
def F_270 (c12 : Cl) (a0 : Nat) (p1 : Int32) (p2 : Int32) : Option Int32 :=
  ald (cA c12 29 a0) 30 p1 >>= fun v1 =>
  F_223 c12 a0 v1 1 >>= fun r2 =>
  ald (cA c12 30 a0) 30 p1 >>= fun v3 =>
  ((if p2 = v3 then
  some r2
  else
  ald (cA c12 29 a0) 30 p1 >>= fun v7 =>
  F_223 c12 a0 v7 0 >>= fun r8 =>
  if p2 = r8 then
  some (-r2)
  else
  some 0) : Option (Int32)) >>= fun (t4 : Int32) =>
  some t4
set_option maxRecDepth 100000 in
set_option maxHeartbeats 4000000 in
/-- HeadCountsModel.change -/
theorem e_270 {D : Nat} {c0 c1 c2 c3 c4 c5 c6 c7 c8 c9 c10 c11 c12 c13 : Cl} {d : Ad} {h : UH} {a0 : Nat} {p1 : Int32} {p2 : Int32} {r : Int32} (hD : 2 ≤ D) (hW : HW (mkw c0 c1 c2 c3 c4 c5 c6 c7 c8 c9 c10 c11 c12 c13) d h) (ha0 : aK d a0 = (0, 12, 0)) (hF : F_270 c12 a0 p1 p2 = some r) : ∃ q, EX D 270 [.ref a0, .int p1, .int p2] h q ∧ q.1 = some (.int r) ∧ h = q.2 := by
  obtain ⟨D, rfl⟩ : ∃ E, D = E + 1 := ⟨D - 1, by omega⟩
  unfold F_270 at hF
  refine ex_in (kl := kl_270) (nL := 4) rfl (by decide +kernel) (Nat.le_of_ble_eq_true rfl) ?_
  obtain ⟨QQ, hQQ⟩ : ∃ QQ : UR → Prop, QQ = (fun q : UR => q.1 = some (.int r) ∧ h = q.2) := ⟨_, rfl⟩
  rw [← hQQ]
  have hQ : QQ (some (.int r), h) := by rw [hQQ]; exact ⟨rfl, rfl⟩
  clear hQQ
  show Ends (EX D) (u_at kl_270) (0, [some (.ref a0), some (.int p1), some (.int p2), none], [], h) QQ
  refine en_segs [(0, .aload_n 0, []), (1, .aload_n 0, [])] (by decide +kernel) (y := (2, [some (.ref a0), some (.int p1), some (.int p2), none], [.ref a0, .ref a0], h)) rfl ?_
  refine en_get (by decide +kernel : u_at kl_270 2 = some (.getfield 61, [12, 29])) hW ha0 (by decide) rfl ?_
  refine en_segs [(5, .iload_n 1, [])] (by decide +kernel) (y := (6, [some (.ref a0), some (.int p1), some (.int p2), none], [.int p1, .ref (aP d 12 29 a0), .ref a0], h)) rfl ?_
  obtain ⟨v1, hv1, hF⟩ := ob_some hF
  refine en_iald (by decide +kernel : u_at kl_270 6 = some (.iaload, [])) hW ha0 rfl (by decide) hv1 ?_
  refine en_segs [(7, .iconst 1, [])] (by decide +kernel) (y := (8, [some (.ref a0), some (.int p1), some (.int p2), none], [.int 1, .int v1, .ref a0], h)) rfl ?_
  obtain ⟨r2, hr2, hF⟩ := ob_some hF
  refine en_vi (r := []) (by decide +kernel : u_at kl_270 8 = some (.invokevirtual 343, [223, 2, 12])) hW ha0 rfl rfl (Nat.le_of_ble_eq_true rfl) (e_223 (D := D) (by omega) hW ha0 hr2) (fun h' q => ?_)
  subst q
  refine en_segs [(11, .istore_n 3, []), (12, .iload_n 2, []), (13, .aload_n 0, [])] (by decide +kernel) (y := (14, [some (.ref a0), some (.int p1), some (.int p2), some (.int r2)], [.ref a0, .int p2], h)) rfl ?_
  refine en_get (by decide +kernel : u_at kl_270 14 = some (.getfield 64, [12, 30])) hW ha0 (by decide) rfl ?_
  refine en_segs [(17, .iload_n 1, [])] (by decide +kernel) (y := (18, [some (.ref a0), some (.int p1), some (.int p2), some (.int r2)], [.int p1, .ref (aP d 12 30 a0), .int p2], h)) rfl ?_
  obtain ⟨v3, hv3, hF⟩ := ob_some hF
  refine en_iald (by decide +kernel : u_at kl_270 18 = some (.iaload, [])) hW ha0 rfl (by decide) hv3 ?_
  obtain ⟨t4, hX, hK⟩ := ob_some hF
  have j5 : Ends (EX D) (u_at kl_270) (47, [some (.ref a0), some (.int p1), some (.int p2), some (.int r2)], [.int t4], h) QQ := by
    have hF := hK
    obtain rfl := Option.some.inj hF
    exact en_ret (by decide +kernel : u_at kl_270 47 = some (.ireturn, [0])) rfl (hQ)
  have hF := hX
  refine en_ic_ne (by decide +kernel : u_at kl_270 19 = some (.if_icmp .ne 7, [26])) (fun b6 => ?_) (fun b6 => ?_)
  · replace hF := i_pos b6 hF
    refine en_segs [(22, .iload_n 3, []), (23, .goto 24, [47])] (by decide +kernel) (y := (47, [some (.ref a0), some (.int p1), some (.int p2), some (.int r2)], [.int r2], h)) rfl ?_
    obtain rfl := Option.some.inj hF
    exact j5
  · replace hF := i_neg b6 hF
    refine en_segs [(26, .iload_n 2, []), (27, .aload_n 0, []), (28, .aload_n 0, [])] (by decide +kernel) (y := (29, [some (.ref a0), some (.int p1), some (.int p2), some (.int r2)], [.ref a0, .ref a0, .int p2], h)) rfl ?_
    refine en_get (by decide +kernel : u_at kl_270 29 = some (.getfield 61, [12, 29])) hW ha0 (by decide) rfl ?_
    refine en_segs [(32, .iload_n 1, [])] (by decide +kernel) (y := (33, [some (.ref a0), some (.int p1), some (.int p2), some (.int r2)], [.int p1, .ref (aP d 12 29 a0), .ref a0, .int p2], h)) rfl ?_
    obtain ⟨v7, hv7, hF⟩ := ob_some hF
    refine en_iald (by decide +kernel : u_at kl_270 33 = some (.iaload, [])) hW ha0 rfl (by decide) hv7 ?_
    refine en_segs [(34, .iconst 0, [])] (by decide +kernel) (y := (35, [some (.ref a0), some (.int p1), some (.int p2), some (.int r2)], [.int 0, .int v7, .ref a0, .int p2], h)) rfl ?_
    obtain ⟨r8, hr8, hF⟩ := ob_some hF
    refine en_vi (r := [.int p2]) (by decide +kernel : u_at kl_270 35 = some (.invokevirtual 343, [223, 2, 12])) hW ha0 rfl rfl (Nat.le_of_ble_eq_true rfl) (e_223 (D := D) (by omega) hW ha0 hr8) (fun h' q => ?_)
    subst q
    refine en_ic_ne (by decide +kernel : u_at kl_270 38 = some (.if_icmp .ne 8, [46])) (fun b9 => ?_) (fun b9 => ?_)
    · replace hF := i_pos b9 hF
      refine en_segs [(41, .iload_n 3, []), (42, .ineg, []), (43, .goto 4, [47])] (by decide +kernel) (y := (47, [some (.ref a0), some (.int p1), some (.int p2), some (.int r2)], [.int (-r2)], h)) rfl ?_
      obtain rfl := Option.some.inj hF
      exact j5
    · replace hF := i_neg b9 hF
      refine en_segs [(46, .iconst 0, [])] (by decide +kernel) (y := (47, [some (.ref a0), some (.int p1), some (.int p2), some (.int r2)], [.int 0], h)) rfl ?_
      obtain rfl := Option.some.inj hF
      exact j5
def G_271 (c12 : Cl) (a0 : Nat) (lab : Nat) (xs : List Int32) (ys : List Int64) (zs : List Nat) : Option Int32 := match lab, xs, ys, zs with
  | 0, [x1, x2, x3, x4], [], [] =>
    ald (cA c12 20 a0) 221 0 >>= fun v1 =>
    if v1 ≤ x4 then
    some 1
    else
    F_171 x3 x4 >>= fun r3 =>
    if r3 = 0 then
    G_271 c12 a0 0 [x1, x2, x3, x4 + 1] [] []
    else
    F_270 c12 a0 x1 x4 >>= fun r5 =>
    F_270 c12 a0 x2 x4 >>= fun r6 =>
    if r5 = r6 then
    G_271 c12 a0 0 [x1, x2, x3, x4 + 1] [] []
    else
    some 0
  | _, _, _, _ => none
partial_fixpoint
set_option maxRecDepth 100000 in
set_option maxHeartbeats 4000000 in
theorem g_271 {D : Nat} (hD : 3 ≤ D + 1) {c0 c1 c2 c3 c4 c5 c6 c7 c8 c9 c10 c11 c12 c13 : Cl} {d : Ad} {a0 : Nat} (ha0 : aK d a0 = (0, 12, 0)) : ∀ (lab : Nat) (xs : List Int32) (ys : List Int64) (zs : List Nat) (r : Int32), G_271 c12 a0 lab xs ys zs = some r →
    (∀ (x1 : Int32) (x2 : Int32) (x3 : Int32) (x4 : Int32), lab = 0 → xs = [x1, x2, x3, x4] → ys = [] → zs = [] → ∀ h : UH, HW (mkw c0 c1 c2 c3 c4 c5 c6 c7 c8 c9 c10 c11 c12 c13) d h → ∀ QQ : UR → Prop, QQ (some (.int r), h) → Ends (EX D) (u_at kl_271) (3, [some (.ref a0), some (.int x1), some (.int x2), some (.int x3), some (.int x4)], [], h) QQ) := by
  refine G_271.partial_correctness _ _ (motive := fun lab xs ys zs r =>
    (∀ (x1 : Int32) (x2 : Int32) (x3 : Int32) (x4 : Int32), lab = 0 → xs = [x1, x2, x3, x4] → ys = [] → zs = [] → ∀ h : UH, HW (mkw c0 c1 c2 c3 c4 c5 c6 c7 c8 c9 c10 c11 c12 c13) d h → ∀ QQ : UR → Prop, QQ (some (.int r), h) → Ends (EX D) (u_at kl_271) (3, [some (.ref a0), some (.int x1), some (.int x2), some (.int x3), some (.int x4)], [], h) QQ)) ?_
  intro G ih lab xs ys zs r hF
  · intro x1 x2 x3 x4 e1 e2 e3 e4 h hW QQ hQ
    subst e1 e2 e3 e4
    refine en_segs [(3, .iload 4, []), (5, .aload_n 0, [])] (by decide +kernel) (y := (6, [some (.ref a0), some (.int x1), some (.int x2), some (.int x3), some (.int x4)], [.ref a0, .int x4], h)) rfl ?_
    refine en_get (by decide +kernel : u_at kl_271 6 = some (.getfield 39, [12, 20])) hW ha0 (by decide) rfl ?_
    refine en_segs [(9, .iconst 0, [])] (by decide +kernel) (y := (10, [some (.ref a0), some (.int x1), some (.int x2), some (.int x3), some (.int x4)], [.int 0, .ref (aP d 12 20 a0), .int x4], h)) rfl ?_
    obtain ⟨v1, hv1, hF⟩ := ob_some hF
    refine en_iald (by decide +kernel : u_at kl_271 10 = some (.iaload, [])) hW ha0 rfl (by decide) hv1 ?_
    refine en_ic_ge (by decide +kernel : u_at kl_271 11 = some (.if_icmp .ge 37, [48])) (fun b2 => ?_) (fun b2 => ?_)
    · replace hF := i_pos b2 hF
      refine en_segs [(48, .iconst 1, [])] (by decide +kernel) (y := (49, [some (.ref a0), some (.int x1), some (.int x2), some (.int x3), some (.int x4)], [.int 1], h)) rfl ?_
      obtain rfl := Option.some.inj hF
      exact en_ret (by decide +kernel : u_at kl_271 49 = some (.ireturn, [1])) rfl (hQ)
    · replace hF := i_neg b2 hF
      refine en_segs [(14, .iload_n 3, []), (15, .iload 4, [])] (by decide +kernel) (y := (17, [some (.ref a0), some (.int x1), some (.int x2), some (.int x3), some (.int x4)], [.int x4, .int x3], h)) rfl ?_
      obtain ⟨r3, hr3, hF⟩ := ob_some hF
      refine en_si (r := []) (by decide +kernel : u_at kl_271 17 = some (.invokestatic 361, [171, 2])) rfl rfl (Nat.le_of_ble_eq_true rfl) (e_171 (D := D) (by omega) hW hr3) (fun h' q => ?_)
      subst q
      refine en_if_eq (by decide +kernel : u_at kl_271 20 = some (.ifCond .eq 22, [42])) (fun b4 => ?_) (fun b4 => ?_)
      · replace hF := i_pos b4 hF
        refine en_segs [(42, .iinc 4 1, []), (45, .goto (-42), [3])] (by decide +kernel) (y := (3, [some (.ref a0), some (.int x1), some (.int x2), some (.int x3), some (.int (x4 + 1))], [], h)) rfl ?_
        exact (ih _ _ _ _ _ hF) _ _ _ _ rfl rfl rfl rfl  _ hW _ hQ
      · replace hF := i_neg b4 hF
        refine en_segs [(23, .aload_n 0, []), (24, .iload_n 1, []), (25, .iload 4, [])] (by decide +kernel) (y := (27, [some (.ref a0), some (.int x1), some (.int x2), some (.int x3), some (.int x4)], [.int x4, .int x1, .ref a0], h)) rfl ?_
        obtain ⟨r5, hr5, hF⟩ := ob_some hF
        refine en_vi (r := []) (by decide +kernel : u_at kl_271 27 = some (.invokevirtual 467, [270, 2, 12])) hW ha0 rfl rfl (Nat.le_of_ble_eq_true rfl) (e_270 (D := D) (by omega) hW ha0 hr5) (fun h' q => ?_)
        subst q
        refine en_segs [(30, .aload_n 0, []), (31, .iload_n 2, []), (32, .iload 4, [])] (by decide +kernel) (y := (34, [some (.ref a0), some (.int x1), some (.int x2), some (.int x3), some (.int x4)], [.int x4, .int x2, .ref a0, .int r5], h)) rfl ?_
        obtain ⟨r6, hr6, hF⟩ := ob_some hF
        refine en_vi (r := [.int r5]) (by decide +kernel : u_at kl_271 34 = some (.invokevirtual 467, [270, 2, 12])) hW ha0 rfl rfl (Nat.le_of_ble_eq_true rfl) (e_270 (D := D) (by omega) hW ha0 hr6) (fun h' q => ?_)
        subst q
        refine en_ic_eq (by decide +kernel : u_at kl_271 37 = some (.if_icmp .eq 5, [42])) (fun b7 => ?_) (fun b7 => ?_)
        · replace hF := i_pos b7 hF
          refine en_segs [(42, .iinc 4 1, []), (45, .goto (-42), [3])] (by decide +kernel) (y := (3, [some (.ref a0), some (.int x1), some (.int x2), some (.int x3), some (.int (x4 + 1))], [], h)) rfl ?_
          exact (ih _ _ _ _ _ hF) _ _ _ _ rfl rfl rfl rfl  _ hW _ hQ
        · replace hF := i_neg b7 hF
          refine en_segs [(40, .iconst 0, [])] (by decide +kernel) (y := (41, [some (.ref a0), some (.int x1), some (.int x2), some (.int x3), some (.int x4)], [.int 0], h)) rfl ?_
          obtain rfl := Option.some.inj hF
          exact en_ret (by decide +kernel : u_at kl_271 41 = some (.ireturn, [1])) rfl (hQ)
def F_271 (c12 : Cl) (a0 : Nat) (p1 : Int32) (p2 : Int32) (p3 : Int32) : Option Int32 :=
  G_271 c12 a0 0 [p1, p2, p3, 0] [] []
set_option maxRecDepth 100000 in
set_option maxHeartbeats 4000000 in
/-- HeadCountsModel.changesAlike -/
theorem e_271 {D : Nat} {c0 c1 c2 c3 c4 c5 c6 c7 c8 c9 c10 c11 c12 c13 : Cl} {d : Ad} {h : UH} {a0 : Nat} {p1 : Int32} {p2 : Int32} {p3 : Int32} {r : Int32} (hD : 3 ≤ D) (hW : HW (mkw c0 c1 c2 c3 c4 c5 c6 c7 c8 c9 c10 c11 c12 c13) d h) (ha0 : aK d a0 = (0, 12, 0)) (hF : F_271 c12 a0 p1 p2 p3 = some r) : ∃ q, EX D 271 [.ref a0, .int p1, .int p2, .int p3] h q ∧ q.1 = some (.int r) ∧ h = q.2 := by
  obtain ⟨D, rfl⟩ : ∃ E, D = E + 1 := ⟨D - 1, by omega⟩
  unfold F_271 at hF
  refine ex_in (kl := kl_271) (nL := 5) rfl (by decide +kernel) (Nat.le_of_ble_eq_true rfl) ?_
  obtain ⟨QQ, hQQ⟩ : ∃ QQ : UR → Prop, QQ = (fun q : UR => q.1 = some (.int r) ∧ h = q.2) := ⟨_, rfl⟩
  rw [← hQQ]
  have hQ : QQ (some (.int r), h) := by rw [hQQ]; exact ⟨rfl, rfl⟩
  clear hQQ
  show Ends (EX D) (u_at kl_271) (0, [some (.ref a0), some (.int p1), some (.int p2), some (.int p3), none], [], h) QQ
  refine en_segs [(0, .iconst 0, []), (1, .istore 4, [])] (by decide +kernel) (y := (3, [some (.ref a0), some (.int p1), some (.int p2), some (.int p3), some (.int 0)], [], h)) rfl ?_
  exact (g_271 (D := D) hD (d := d) ha0 _ _ _ _ _ hF) _ _ _ _ rfl rfl rfl rfl  _ hW _ hQ
def G_272 (c12 : Cl) (a0 : Nat) (lab : Nat) (xs : List Int32) (ys : List Int64) (zs : List Nat) : Option Int32 := match lab, xs, ys, zs with
  | 0, [x1, x2], [], [] =>
    if (cI c12 31 a0) ≤ x2 then
    some 1
    else
    ald (cA c12 29 a0) 30 x2 >>= fun v2 =>
    F_223 c12 a0 v2 0 >>= fun r3 =>
    F_171 x1 r3 >>= fun r4 =>
    if r4 = 0 then
    ald (cA c12 30 a0) 30 x2 >>= fun v6 =>
    F_171 x1 v6 >>= fun r7 =>
    if r7 = 0 then
    some 0
    else
    G_272 c12 a0 1 [x1, x2, r3, x2 + 1] [] []
    else
    G_272 c12 a0 1 [x1, x2, r3, x2 + 1] [] []
  | 1, [x1, x2, x3, x4], [], [] =>
    if (cI c12 31 a0) ≤ x4 then
    G_272 c12 a0 0 [x1, x2 + 1] [] []
    else
    ald (cA c12 29 a0) 30 x4 >>= fun v10 =>
    F_223 c12 a0 v10 0 >>= fun r11 =>
    ((if r11 = x3 then
    ald (cA c12 30 a0) 30 x4 >>= fun v18 =>
    ald (cA c12 30 a0) 30 x2 >>= fun v19 =>
    if v18 = v19 then
    some 1
    else
    some 0
    else
    some 0) : Option (Int32)) >>= fun (t12 : Int32) =>
    if t12 = 0 then
    F_271 c12 a0 x2 x4 x1 >>= fun r15 =>
    if r15 = 0 then
    G_272 c12 a0 1 [x1, x2, x3, x4 + 1] [] []
    else
    some 0
    else
    G_272 c12 a0 1 [x1, x2, x3, x4 + 1] [] []
  | _, _, _, _ => none
partial_fixpoint
set_option maxRecDepth 100000 in
set_option maxHeartbeats 4000000 in
theorem g_272 {D : Nat} (hD : 4 ≤ D + 1) {c0 c1 c2 c3 c4 c5 c6 c7 c8 c9 c10 c11 c12 c13 : Cl} {d : Ad} {a0 : Nat} (ha0 : aK d a0 = (0, 12, 0)) : ∀ (lab : Nat) (xs : List Int32) (ys : List Int64) (zs : List Nat) (r : Int32), G_272 c12 a0 lab xs ys zs = some r →
    (∀ (x1 : Int32) (x2 : Int32), lab = 0 → xs = [x1, x2] → ys = [] → zs = [] → ∀ h : UH, HW (mkw c0 c1 c2 c3 c4 c5 c6 c7 c8 c9 c10 c11 c12 c13) d h → ∀ QQ : UR → Prop, QQ (some (.int r), h) → Ends (EX D) (u_at kl_272) (2, [some (.ref a0), some (.int x1), some (.int x2), none, none, none], [], h) QQ) ∧
    (∀ (x1 : Int32) (x2 : Int32) (x3 : Int32) (x4 : Int32), lab = 1 → xs = [x1, x2, x3, x4] → ys = [] → zs = [] → ∀ h : UH, HW (mkw c0 c1 c2 c3 c4 c5 c6 c7 c8 c9 c10 c11 c12 c13) d h → ∀ QQ : UR → Prop, QQ (some (.int r), h) → Ends (EX D) (u_at kl_272) (50, [some (.ref a0), some (.int x1), some (.int x2), some (.int x3), some (.int x4), none], [], h) QQ) := by
  refine G_272.partial_correctness _ _ (motive := fun lab xs ys zs r =>
    (∀ (x1 : Int32) (x2 : Int32), lab = 0 → xs = [x1, x2] → ys = [] → zs = [] → ∀ h : UH, HW (mkw c0 c1 c2 c3 c4 c5 c6 c7 c8 c9 c10 c11 c12 c13) d h → ∀ QQ : UR → Prop, QQ (some (.int r), h) → Ends (EX D) (u_at kl_272) (2, [some (.ref a0), some (.int x1), some (.int x2), none, none, none], [], h) QQ) ∧
    (∀ (x1 : Int32) (x2 : Int32) (x3 : Int32) (x4 : Int32), lab = 1 → xs = [x1, x2, x3, x4] → ys = [] → zs = [] → ∀ h : UH, HW (mkw c0 c1 c2 c3 c4 c5 c6 c7 c8 c9 c10 c11 c12 c13) d h → ∀ QQ : UR → Prop, QQ (some (.int r), h) → Ends (EX D) (u_at kl_272) (50, [some (.ref a0), some (.int x1), some (.int x2), some (.int x3), some (.int x4), none], [], h) QQ)) ?_
  intro G ih lab xs ys zs r hF
  refine ⟨?_, ?_⟩
  · intro x1 x2 e1 e2 e3 e4 h hW QQ hQ
    subst e1 e2 e3 e4
    refine en_segs [(2, .iload_n 2, []), (3, .aload_n 0, [])] (by decide +kernel) (y := (4, [some (.ref a0), some (.int x1), some (.int x2), none, none, none], [.ref a0, .int x2], h)) rfl ?_
    refine en_get (by decide +kernel : u_at kl_272 4 = some (.getfield 464, [12, 31])) hW ha0 (by decide) rfl ?_
    refine en_ic_ge (by decide +kernel : u_at kl_272 7 = some (.if_icmp .ge 121, [128])) (fun b1 => ?_) (fun b1 => ?_)
    · replace hF := i_pos b1 hF
      refine en_segs [(128, .iconst 1, [])] (by decide +kernel) (y := (129, [some (.ref a0), some (.int x1), some (.int x2), none, none, none], [.int 1], h)) rfl ?_
      obtain rfl := Option.some.inj hF
      exact en_ret (by decide +kernel : u_at kl_272 129 = some (.ireturn, [1])) rfl (hQ)
    · replace hF := i_neg b1 hF
      refine en_segs [(10, .aload_n 0, []), (11, .aload_n 0, [])] (by decide +kernel) (y := (12, [some (.ref a0), some (.int x1), some (.int x2), none, none, none], [.ref a0, .ref a0], h)) rfl ?_
      refine en_get (by decide +kernel : u_at kl_272 12 = some (.getfield 61, [12, 29])) hW ha0 (by decide) rfl ?_
      refine en_segs [(15, .iload_n 2, [])] (by decide +kernel) (y := (16, [some (.ref a0), some (.int x1), some (.int x2), none, none, none], [.int x2, .ref (aP d 12 29 a0), .ref a0], h)) rfl ?_
      obtain ⟨v2, hv2, hF⟩ := ob_some hF
      refine en_iald (by decide +kernel : u_at kl_272 16 = some (.iaload, [])) hW ha0 rfl (by decide) hv2 ?_
      refine en_segs [(17, .iconst 0, [])] (by decide +kernel) (y := (18, [some (.ref a0), some (.int x1), some (.int x2), none, none, none], [.int 0, .int v2, .ref a0], h)) rfl ?_
      obtain ⟨r3, hr3, hF⟩ := ob_some hF
      refine en_vi (r := []) (by decide +kernel : u_at kl_272 18 = some (.invokevirtual 343, [223, 2, 12])) hW ha0 rfl rfl (Nat.le_of_ble_eq_true rfl) (e_223 (D := D) (by omega) hW ha0 hr3) (fun h' q => ?_)
      subst q
      refine en_segs [(21, .istore_n 3, []), (22, .iload_n 1, []), (23, .iload_n 3, [])] (by decide +kernel) (y := (24, [some (.ref a0), some (.int x1), some (.int x2), some (.int r3), none, none], [.int r3, .int x1], h)) rfl ?_
      obtain ⟨r4, hr4, hF⟩ := ob_some hF
      refine en_si (r := []) (by decide +kernel : u_at kl_272 24 = some (.invokestatic 361, [171, 2])) rfl rfl (Nat.le_of_ble_eq_true rfl) (e_171 (D := D) (by omega) hW hr4) (fun h' q => ?_)
      subst q
      refine en_if_ne (by decide +kernel : u_at kl_272 27 = some (.ifCond .ne 18, [45])) (fun b5 => ?_) (fun b5 => ?_)
      · replace hF := i_pos b5 hF
        refine en_segs [(30, .iload_n 1, []), (31, .aload_n 0, [])] (by decide +kernel) (y := (32, [some (.ref a0), some (.int x1), some (.int x2), some (.int r3), none, none], [.ref a0, .int x1], h)) rfl ?_
        refine en_get (by decide +kernel : u_at kl_272 32 = some (.getfield 64, [12, 30])) hW ha0 (by decide) rfl ?_
        refine en_segs [(35, .iload_n 2, [])] (by decide +kernel) (y := (36, [some (.ref a0), some (.int x1), some (.int x2), some (.int r3), none, none], [.int x2, .ref (aP d 12 30 a0), .int x1], h)) rfl ?_
        obtain ⟨v6, hv6, hF⟩ := ob_some hF
        refine en_iald (by decide +kernel : u_at kl_272 36 = some (.iaload, [])) hW ha0 rfl (by decide) hv6 ?_
        obtain ⟨r7, hr7, hF⟩ := ob_some hF
        refine en_si (r := []) (by decide +kernel : u_at kl_272 37 = some (.invokestatic 361, [171, 2])) rfl rfl (Nat.le_of_ble_eq_true rfl) (e_171 (D := D) (by omega) hW hr7) (fun h' q => ?_)
        subst q
        refine en_if_ne (by decide +kernel : u_at kl_272 40 = some (.ifCond .ne 5, [45])) (fun b8 => ?_) (fun b8 => ?_)
        · replace hF := i_pos b8 hF
          refine en_segs [(43, .iconst 0, [])] (by decide +kernel) (y := (44, [some (.ref a0), some (.int x1), some (.int x2), some (.int r3), none, none], [.int 0], h)) rfl ?_
          obtain rfl := Option.some.inj hF
          exact en_ret (by decide +kernel : u_at kl_272 44 = some (.ireturn, [1])) rfl (hQ)
        · replace hF := i_neg b8 hF
          refine en_segs [(45, .iload_n 2, []), (46, .iconst 1, []), (47, .iadd, []), (48, .istore 4, [])] (by decide +kernel) (y := (50, [some (.ref a0), some (.int x1), some (.int x2), some (.int r3), some (.int (x2 + 1)), none], [], h)) rfl ?_
          exact (ih _ _ _ _ _ hF).2 _ _ _ _ rfl rfl rfl rfl  _ hW _ hQ
      · replace hF := i_neg b5 hF
        refine en_segs [(45, .iload_n 2, []), (46, .iconst 1, []), (47, .iadd, []), (48, .istore 4, [])] (by decide +kernel) (y := (50, [some (.ref a0), some (.int x1), some (.int x2), some (.int r3), some (.int (x2 + 1)), none], [], h)) rfl ?_
        exact (ih _ _ _ _ _ hF).2 _ _ _ _ rfl rfl rfl rfl  _ hW _ hQ
  · intro x1 x2 x3 x4 e1 e2 e3 e4 h hW QQ hQ
    subst e1 e2 e3 e4
    refine en_segs [(50, .iload 4, []), (52, .aload_n 0, [])] (by decide +kernel) (y := (53, [some (.ref a0), some (.int x1), some (.int x2), some (.int x3), some (.int x4), none], [.ref a0, .int x4], h)) rfl ?_
    refine en_get (by decide +kernel : u_at kl_272 53 = some (.getfield 464, [12, 31])) hW ha0 (by decide) rfl ?_
    refine en_ic_ge (by decide +kernel : u_at kl_272 56 = some (.if_icmp .ge 66, [122])) (fun b9 => ?_) (fun b9 => ?_)
    · replace hF := i_pos b9 hF
      refine en_segs [(122, .iinc 2 1, []), (125, .goto (-123), [2])] (by decide +kernel) (y := (2, [some (.ref a0), some (.int x1), some (.int (x2 + 1)), some (.int x3), some (.int x4), none], [], h)) rfl ?_
      refine en_fg (fg_k (fg_k (fg_k (fg_d (fg_d (fg_k fg_0)))))) ?_
      exact (ih _ _ _ _ _ hF).1 _ _ rfl rfl rfl rfl  _ hW _ hQ
    · replace hF := i_neg b9 hF
      refine en_segs [(59, .aload_n 0, []), (60, .aload_n 0, [])] (by decide +kernel) (y := (61, [some (.ref a0), some (.int x1), some (.int x2), some (.int x3), some (.int x4), none], [.ref a0, .ref a0], h)) rfl ?_
      refine en_get (by decide +kernel : u_at kl_272 61 = some (.getfield 61, [12, 29])) hW ha0 (by decide) rfl ?_
      refine en_segs [(64, .iload 4, [])] (by decide +kernel) (y := (66, [some (.ref a0), some (.int x1), some (.int x2), some (.int x3), some (.int x4), none], [.int x4, .ref (aP d 12 29 a0), .ref a0], h)) rfl ?_
      obtain ⟨v10, hv10, hF⟩ := ob_some hF
      refine en_iald (by decide +kernel : u_at kl_272 66 = some (.iaload, [])) hW ha0 rfl (by decide) hv10 ?_
      refine en_segs [(67, .iconst 0, [])] (by decide +kernel) (y := (68, [some (.ref a0), some (.int x1), some (.int x2), some (.int x3), some (.int x4), none], [.int 0, .int v10, .ref a0], h)) rfl ?_
      obtain ⟨r11, hr11, hF⟩ := ob_some hF
      refine en_vi (r := []) (by decide +kernel : u_at kl_272 68 = some (.invokevirtual 343, [223, 2, 12])) hW ha0 rfl rfl (Nat.le_of_ble_eq_true rfl) (e_223 (D := D) (by omega) hW ha0 hr11) (fun h' q => ?_)
      subst q
      refine en_segs [(71, .iload_n 3, [])] (by decide +kernel) (y := (72, [some (.ref a0), some (.int x1), some (.int x2), some (.int x3), some (.int x4), none], [.int x3, .int r11], h)) rfl ?_
      obtain ⟨t12, hX, hK⟩ := ob_some hF
      have j13 : Ends (EX D) (u_at kl_272) (96, [some (.ref a0), some (.int x1), some (.int x2), some (.int x3), some (.int x4), none], [.int t12], h) QQ := by
        have hF := hK
        refine en_segs [(96, .istore 5, []), (98, .iload 5, [])] (by decide +kernel) (y := (100, [some (.ref a0), some (.int x1), some (.int x2), some (.int x3), some (.int x4), some (.int t12)], [.int t12], h)) rfl ?_
        refine en_if_ne (by decide +kernel : u_at kl_272 100 = some (.ifCond .ne 16, [116])) (fun b14 => ?_) (fun b14 => ?_)
        · replace hF := i_pos b14 hF
          refine en_segs [(103, .aload_n 0, []), (104, .iload_n 2, []), (105, .iload 4, []), (107, .iload_n 1, [])] (by decide +kernel) (y := (108, [some (.ref a0), some (.int x1), some (.int x2), some (.int x3), some (.int x4), some (.int t12)], [.int x1, .int x4, .int x2, .ref a0], h)) rfl ?_
          obtain ⟨r15, hr15, hF⟩ := ob_some hF
          refine en_vi (r := []) (by decide +kernel : u_at kl_272 108 = some (.invokevirtual 470, [271, 3, 12])) hW ha0 rfl rfl (Nat.le_of_ble_eq_true rfl) (e_271 (D := D) (by omega) hW ha0 hr15) (fun h' q => ?_)
          subst q
          refine en_if_eq (by decide +kernel : u_at kl_272 111 = some (.ifCond .eq 5, [116])) (fun b16 => ?_) (fun b16 => ?_)
          · replace hF := i_pos b16 hF
            refine en_segs [(116, .iinc 4 1, []), (119, .goto (-69), [50])] (by decide +kernel) (y := (50, [some (.ref a0), some (.int x1), some (.int x2), some (.int x3), some (.int (x4 + 1)), some (.int t12)], [], h)) rfl ?_
            refine en_fg (fg_k (fg_k (fg_k (fg_k (fg_k (fg_d fg_0)))))) ?_
            exact (ih _ _ _ _ _ hF).2 _ _ _ _ rfl rfl rfl rfl  _ hW _ hQ
          · replace hF := i_neg b16 hF
            refine en_segs [(114, .iconst 0, [])] (by decide +kernel) (y := (115, [some (.ref a0), some (.int x1), some (.int x2), some (.int x3), some (.int x4), some (.int t12)], [.int 0], h)) rfl ?_
            obtain rfl := Option.some.inj hF
            exact en_ret (by decide +kernel : u_at kl_272 115 = some (.ireturn, [1])) rfl (hQ)
        · replace hF := i_neg b14 hF
          refine en_segs [(116, .iinc 4 1, []), (119, .goto (-69), [50])] (by decide +kernel) (y := (50, [some (.ref a0), some (.int x1), some (.int x2), some (.int x3), some (.int (x4 + 1)), some (.int t12)], [], h)) rfl ?_
          refine en_fg (fg_k (fg_k (fg_k (fg_k (fg_k (fg_d fg_0)))))) ?_
          exact (ih _ _ _ _ _ hF).2 _ _ _ _ rfl rfl rfl rfl  _ hW _ hQ
      have hF := hX
      refine en_ic_ne (by decide +kernel : u_at kl_272 72 = some (.if_icmp .ne 23, [95])) (fun b17 => ?_) (fun b17 => ?_)
      · replace hF := i_pos b17 hF
        refine en_segs [(75, .aload_n 0, [])] (by decide +kernel) (y := (76, [some (.ref a0), some (.int x1), some (.int x2), some (.int x3), some (.int x4), none], [.ref a0], h)) rfl ?_
        refine en_get (by decide +kernel : u_at kl_272 76 = some (.getfield 64, [12, 30])) hW ha0 (by decide) rfl ?_
        refine en_segs [(79, .iload 4, [])] (by decide +kernel) (y := (81, [some (.ref a0), some (.int x1), some (.int x2), some (.int x3), some (.int x4), none], [.int x4, .ref (aP d 12 30 a0)], h)) rfl ?_
        obtain ⟨v18, hv18, hF⟩ := ob_some hF
        refine en_iald (by decide +kernel : u_at kl_272 81 = some (.iaload, [])) hW ha0 rfl (by decide) hv18 ?_
        refine en_segs [(82, .aload_n 0, [])] (by decide +kernel) (y := (83, [some (.ref a0), some (.int x1), some (.int x2), some (.int x3), some (.int x4), none], [.ref a0, .int v18], h)) rfl ?_
        refine en_get (by decide +kernel : u_at kl_272 83 = some (.getfield 64, [12, 30])) hW ha0 (by decide) rfl ?_
        refine en_segs [(86, .iload_n 2, [])] (by decide +kernel) (y := (87, [some (.ref a0), some (.int x1), some (.int x2), some (.int x3), some (.int x4), none], [.int x2, .ref (aP d 12 30 a0), .int v18], h)) rfl ?_
        obtain ⟨v19, hv19, hF⟩ := ob_some hF
        refine en_iald (by decide +kernel : u_at kl_272 87 = some (.iaload, [])) hW ha0 rfl (by decide) hv19 ?_
        refine en_ic_ne (by decide +kernel : u_at kl_272 88 = some (.if_icmp .ne 7, [95])) (fun b20 => ?_) (fun b20 => ?_)
        · replace hF := i_pos b20 hF
          refine en_segs [(91, .iconst 1, []), (92, .goto 4, [96])] (by decide +kernel) (y := (96, [some (.ref a0), some (.int x1), some (.int x2), some (.int x3), some (.int x4), none], [.int 1], h)) rfl ?_
          obtain rfl := Option.some.inj hF
          exact j13
        · replace hF := i_neg b20 hF
          refine en_segs [(95, .iconst 0, [])] (by decide +kernel) (y := (96, [some (.ref a0), some (.int x1), some (.int x2), some (.int x3), some (.int x4), none], [.int 0], h)) rfl ?_
          obtain rfl := Option.some.inj hF
          exact j13
      · replace hF := i_neg b17 hF
        refine en_segs [(95, .iconst 0, [])] (by decide +kernel) (y := (96, [some (.ref a0), some (.int x1), some (.int x2), some (.int x3), some (.int x4), none], [.int 0], h)) rfl ?_
        obtain rfl := Option.some.inj hF
        exact j13
def F_272 (c12 : Cl) (a0 : Nat) (p1 : Int32) : Option Int32 :=
  G_272 c12 a0 0 [p1, 0] [] []
set_option maxRecDepth 100000 in
set_option maxHeartbeats 4000000 in
/-- HeadCountsModel.isKnownBy -/
theorem e_272 {D : Nat} {c0 c1 c2 c3 c4 c5 c6 c7 c8 c9 c10 c11 c12 c13 : Cl} {d : Ad} {h : UH} {a0 : Nat} {p1 : Int32} {r : Int32} (hD : 4 ≤ D) (hW : HW (mkw c0 c1 c2 c3 c4 c5 c6 c7 c8 c9 c10 c11 c12 c13) d h) (ha0 : aK d a0 = (0, 12, 0)) (hF : F_272 c12 a0 p1 = some r) : ∃ q, EX D 272 [.ref a0, .int p1] h q ∧ q.1 = some (.int r) ∧ h = q.2 := by
  obtain ⟨D, rfl⟩ : ∃ E, D = E + 1 := ⟨D - 1, by omega⟩
  unfold F_272 at hF
  refine ex_in (kl := kl_272) (nL := 6) rfl (by decide +kernel) (Nat.le_of_ble_eq_true rfl) ?_
  obtain ⟨QQ, hQQ⟩ : ∃ QQ : UR → Prop, QQ = (fun q : UR => q.1 = some (.int r) ∧ h = q.2) := ⟨_, rfl⟩
  rw [← hQQ]
  have hQ : QQ (some (.int r), h) := by rw [hQQ]; exact ⟨rfl, rfl⟩
  clear hQQ
  show Ends (EX D) (u_at kl_272) (0, [some (.ref a0), some (.int p1), none, none, none, none], [], h) QQ
  refine en_segs [(0, .iconst 0, []), (1, .istore_n 2, [])] (by decide +kernel) (y := (2, [some (.ref a0), some (.int p1), some (.int 0), none, none, none], [], h)) rfl ?_
  exact (g_272 (D := D) hD (d := d) ha0 _ _ _ _ _ hF).1 _ _ rfl rfl rfl rfl  _ hW _ hQ
def F_273 (c12 : Cl) (a0 : Nat) (p1 : Int32) : Option (Int32 × Cl) :=
  F_218 c12 a0 >>= fun r1 =>
  if r1 = 0 then
  some ((-1), c12)
  else
  if p1 < 0 then
  some ((-1), c12)
  else
  ald (cA c12 20 a0) 221 0 >>= fun v4 =>
  if p1 < (1 <<< (v4 &&& 31)) then
  F_269 c12 a0 >>= fun r6 =>
  F_272 r6 a0 p1 >>= fun r7 =>
  ((if r7 = 0 then
  some 0
  else
  some 1) : Option (Int32)) >>= fun (t8 : Int32) =>
  some (t8, r6)
  else
  some ((-1), c12)
set_option maxRecDepth 100000 in
set_option maxHeartbeats 4000000 in
/-- HeadCountsModel.known -/
theorem e_273 {D : Nat} {c0 c1 c2 c3 c4 c5 c6 c7 c8 c9 c10 c11 c12 c13 : Cl} {d : Ad} {h : UH} {a0 : Nat} {p1 : Int32} {r : (Int32 × Cl)} (hD : 6 ≤ D) (hW : HW (mkw c0 c1 c2 c3 c4 c5 c6 c7 c8 c9 c10 c11 c12 c13) d h) (ha0 : aK d a0 = (0, 12, 0)) (hF : F_273 c12 a0 p1 = some r) : ∃ q, EX D 273 [.ref a0, .int p1] h q ∧ q.1 = some (.int r.1) ∧ HW (mkw c0 c1 c2 c3 c4 c5 c6 c7 c8 c9 c10 c11 r.2 c13) d q.2 := by
  obtain ⟨D, rfl⟩ : ∃ E, D = E + 1 := ⟨D - 1, by omega⟩
  unfold F_273 at hF
  refine ex_in (kl := kl_273) (nL := 2) rfl (by decide +kernel) (Nat.le_of_ble_eq_true rfl) ?_
  obtain ⟨QQ, hQQ⟩ : ∃ QQ : UR → Prop, QQ = (fun q : UR => q.1 = some (.int r.1) ∧ HW (mkw c0 c1 c2 c3 c4 c5 c6 c7 c8 c9 c10 c11 r.2 c13) d q.2) := ⟨_, rfl⟩
  rw [← hQQ]
  have hQ : ∀ h' : UH, HW (mkw c0 c1 c2 c3 c4 c5 c6 c7 c8 c9 c10 c11 r.2 c13) d h' → QQ (some (.int r.1), h') := fun h' p => by rw [hQQ]; exact ⟨rfl, p⟩
  clear hQQ
  show Ends (EX D) (u_at kl_273) (0, [some (.ref a0), some (.int p1)], [], h) QQ
  refine en_segs [(0, .aload_n 0, [])] (by decide +kernel) (y := (1, [some (.ref a0), some (.int p1)], [.ref a0], h)) rfl ?_
  obtain ⟨r1, hr1, hF⟩ := ob_some hF
  refine en_vi (r := []) (by decide +kernel : u_at kl_273 1 = some (.invokevirtual 409, [218, 0, 12])) hW ha0 rfl rfl (Nat.le_of_ble_eq_true rfl) (e_218 (D := D) (by omega) hW ha0 hr1) (fun h' q => ?_)
  subst q
  refine en_if_eq (by decide +kernel : u_at kl_273 4 = some (.ifCond .eq 19, [23])) (fun b2 => ?_) (fun b2 => ?_)
  · replace hF := i_pos b2 hF
    refine en_segs [(23, .iconst (-1), [])] (by decide +kernel) (y := (24, [some (.ref a0), some (.int p1)], [.int (-1)], h)) rfl ?_
    obtain rfl := Option.some.inj hF
    exact en_ret (by decide +kernel : u_at kl_273 24 = some (.ireturn, [0])) rfl (hQ _ hW)
  · replace hF := i_neg b2 hF
    refine en_segs [(7, .iload_n 1, [])] (by decide +kernel) (y := (8, [some (.ref a0), some (.int p1)], [.int p1], h)) rfl ?_
    refine en_if_lt (by decide +kernel : u_at kl_273 8 = some (.ifCond .lt 15, [23])) (fun b3 => ?_) (fun b3 => ?_)
    · replace hF := i_pos b3 hF
      refine en_segs [(23, .iconst (-1), [])] (by decide +kernel) (y := (24, [some (.ref a0), some (.int p1)], [.int (-1)], h)) rfl ?_
      obtain rfl := Option.some.inj hF
      exact en_ret (by decide +kernel : u_at kl_273 24 = some (.ireturn, [0])) rfl (hQ _ hW)
    · replace hF := i_neg b3 hF
      refine en_segs [(11, .iload_n 1, []), (12, .iconst 1, []), (13, .aload_n 0, [])] (by decide +kernel) (y := (14, [some (.ref a0), some (.int p1)], [.ref a0, .int 1, .int p1], h)) rfl ?_
      refine en_get (by decide +kernel : u_at kl_273 14 = some (.getfield 39, [12, 20])) hW ha0 (by decide) rfl ?_
      refine en_segs [(17, .iconst 0, [])] (by decide +kernel) (y := (18, [some (.ref a0), some (.int p1)], [.int 0, .ref (aP d 12 20 a0), .int 1, .int p1], h)) rfl ?_
      obtain ⟨v4, hv4, hF⟩ := ob_some hF
      refine en_iald (by decide +kernel : u_at kl_273 18 = some (.iaload, [])) hW ha0 rfl (by decide) hv4 ?_
      refine en_segs [(19, .ishl, [])] (by decide +kernel) (y := (20, [some (.ref a0), some (.int p1)], [.int (1 <<< (v4 &&& 31)), .int p1], h)) rfl ?_
      refine en_ic_lt (by decide +kernel : u_at kl_273 20 = some (.if_icmp .lt 5, [25])) (fun b5 => ?_) (fun b5 => ?_)
      · replace hF := i_pos b5 hF
        refine en_segs [(25, .aload_n 0, [])] (by decide +kernel) (y := (26, [some (.ref a0), some (.int p1)], [.ref a0], h)) rfl ?_
        obtain ⟨r6, hr6, hF⟩ := ob_some hF
        refine en_vv (r := []) (by decide +kernel : u_at kl_273 26 = some (.invokevirtual 473, [269, 0, 12])) hW ha0 rfl rfl (Nat.le_of_ble_eq_true rfl) (e_269 (D := D) (by omega) hW ha0 hr6) (fun h hW => ?_)
        have hW : HW (mkw c0 c1 c2 c3 c4 c5 c6 c7 c8 c9 c10 c11 r6 c13) d h := hW
        refine en_segs [(29, .aload_n 0, []), (30, .iload_n 1, [])] (by decide +kernel) (y := (31, [some (.ref a0), some (.int p1)], [.int p1, .ref a0], h)) rfl ?_
        obtain ⟨r7, hr7, hF⟩ := ob_some hF
        refine en_vi (r := []) (by decide +kernel : u_at kl_273 31 = some (.invokevirtual 476, [272, 1, 12])) hW ha0 rfl rfl (Nat.le_of_ble_eq_true rfl) (e_272 (D := D) (by omega) hW ha0 hr7) (fun h' q => ?_)
        subst q
        obtain ⟨t8, hX, hK⟩ := ob_some hF
        have j9 : ∀ h : UH, HW (mkw c0 c1 c2 c3 c4 c5 c6 c7 c8 c9 c10 c11 r6 c13) d h → Ends (EX D) (u_at kl_273) (42, [some (.ref a0), some (.int p1)], [.int t8], h) QQ := by
          intro h hW
          have hF := hK
          obtain rfl := Option.some.inj hF
          exact en_ret (by decide +kernel : u_at kl_273 42 = some (.ireturn, [0])) rfl (hQ _ hW)
        have hF := hX
        refine en_if_eq (by decide +kernel : u_at kl_273 34 = some (.ifCond .eq 7, [41])) (fun b10 => ?_) (fun b10 => ?_)
        · replace hF := i_pos b10 hF
          refine en_segs [(41, .iconst 0, [])] (by decide +kernel) (y := (42, [some (.ref a0), some (.int p1)], [.int 0], h)) rfl ?_
          obtain rfl := Option.some.inj hF
          exact j9 _ hW
        · replace hF := i_neg b10 hF
          refine en_segs [(37, .iconst 1, []), (38, .goto 4, [42])] (by decide +kernel) (y := (42, [some (.ref a0), some (.int p1)], [.int 1], h)) rfl ?_
          obtain rfl := Option.some.inj hF
          exact j9 _ hW
      · replace hF := i_neg b5 hF
        refine en_segs [(23, .iconst (-1), [])] (by decide +kernel) (y := (24, [some (.ref a0), some (.int p1)], [.int (-1)], h)) rfl ?_
        obtain rfl := Option.some.inj hF
        exact en_ret (by decide +kernel : u_at kl_273 24 = some (.ireturn, [0])) rfl (hQ _ hW)
def G_274 (c12 : Cl) (a0 : Nat) (lab : Nat) (xs : List Int32) (ys : List Int64) (zs : List Nat) : Option (Int32 × Cl) := match lab, xs, ys, zs with
  | 0, [x1, x2], [], [] =>
    if x2 < 0 then
    some (x1, c12)
    else
    F_172 x2 >>= fun r6 =>
    F_172 x1 >>= fun r7 =>
    ((if r7 < r6 then
    some x1
    else
    F_272 c12 a0 x2 >>= fun r11 =>
    if r11 = 0 then
    some x1
    else
    some x2) : Option (Int32)) >>= fun (t8 : Int32) =>
    G_274 c12 a0 0 [t8, x2 + (-1)] [] []
  | _, _, _, _ => none
partial_fixpoint
set_option maxRecDepth 100000 in
set_option maxHeartbeats 4000000 in
theorem g_274 {D : Nat} (hD : 6 ≤ D + 1) {c0 c1 c2 c3 c4 c5 c6 c7 c8 c9 c10 c11 c12 c13 : Cl} {d : Ad} {a0 : Nat} (ha0 : aK d a0 = (0, 12, 0)) : ∀ (lab : Nat) (xs : List Int32) (ys : List Int64) (zs : List Nat) (r : (Int32 × Cl)), G_274 c12 a0 lab xs ys zs = some r →
    (∀ (x1 : Int32) (x2 : Int32), lab = 0 → xs = [x1, x2] → ys = [] → zs = [] → ∀ h : UH, HW (mkw c0 c1 c2 c3 c4 c5 c6 c7 c8 c9 c10 c11 c12 c13) d h → ∀ QQ : UR → Prop, (∀ h' : UH, HW (mkw c0 c1 c2 c3 c4 c5 c6 c7 c8 c9 c10 c11 r.2 c13) d h' → QQ (some (.int r.1), h')) → Ends (EX D) (u_at kl_274) (26, [some (.ref a0), some (.int x1), some (.int x2)], [], h) QQ) := by
  refine G_274.partial_correctness _ _ (motive := fun lab xs ys zs r =>
    (∀ (x1 : Int32) (x2 : Int32), lab = 0 → xs = [x1, x2] → ys = [] → zs = [] → ∀ h : UH, HW (mkw c0 c1 c2 c3 c4 c5 c6 c7 c8 c9 c10 c11 c12 c13) d h → ∀ QQ : UR → Prop, (∀ h' : UH, HW (mkw c0 c1 c2 c3 c4 c5 c6 c7 c8 c9 c10 c11 r.2 c13) d h' → QQ (some (.int r.1), h')) → Ends (EX D) (u_at kl_274) (26, [some (.ref a0), some (.int x1), some (.int x2)], [], h) QQ)) ?_
  intro G ih lab xs ys zs r hF
  · intro x1 x2 e1 e2 e3 e4 h hW QQ hQ
    subst e1 e2 e3 e4
    refine en_segs [(26, .iload_n 2, [])] (by decide +kernel) (y := (27, [some (.ref a0), some (.int x1), some (.int x2)], [.int x2], h)) rfl ?_
    refine en_if_lt (by decide +kernel : u_at kl_274 27 = some (.ifCond .lt 30, [57])) (fun b5 => ?_) (fun b5 => ?_)
    · replace hF := i_pos b5 hF
      refine en_segs [(57, .iload_n 1, [])] (by decide +kernel) (y := (58, [some (.ref a0), some (.int x1), some (.int x2)], [.int x1], h)) rfl ?_
      obtain rfl := Option.some.inj hF
      exact en_ret (by decide +kernel : u_at kl_274 58 = some (.ireturn, [0])) rfl (hQ _ hW)
    · replace hF := i_neg b5 hF
      refine en_segs [(30, .iload_n 2, [])] (by decide +kernel) (y := (31, [some (.ref a0), some (.int x1), some (.int x2)], [.int x2], h)) rfl ?_
      obtain ⟨r6, hr6, hF⟩ := ob_some hF
      refine en_si (r := []) (by decide +kernel : u_at kl_274 31 = some (.invokestatic 479, [172, 1])) rfl rfl (Nat.le_of_ble_eq_true rfl) (e_172 (D := D) (by omega) hW hr6) (fun h' q => ?_)
      subst q
      refine en_segs [(34, .iload_n 1, [])] (by decide +kernel) (y := (35, [some (.ref a0), some (.int x1), some (.int x2)], [.int x1, .int r6], h)) rfl ?_
      obtain ⟨r7, hr7, hF⟩ := ob_some hF
      refine en_si (r := [.int r6]) (by decide +kernel : u_at kl_274 35 = some (.invokestatic 479, [172, 1])) rfl rfl (Nat.le_of_ble_eq_true rfl) (e_172 (D := D) (by omega) hW hr7) (fun h' q => ?_)
      subst q
      obtain ⟨t8, hX, hK⟩ := ob_some hF
      have j9 : ∀ h : UH, HW (mkw c0 c1 c2 c3 c4 c5 c6 c7 c8 c9 c10 c11 c12 c13) d h → Ends (EX D) (u_at kl_274) (51, [some (.ref a0), some (.int t8), some (.int x2)], [], h) QQ := by
        intro h hW
        have hF := hK
        refine en_segs [(51, .iinc 2 (-1), []), (54, .goto (-28), [26])] (by decide +kernel) (y := (26, [some (.ref a0), some (.int t8), some (.int (x2 + (-1)))], [], h)) rfl ?_
        exact (ih _ _ _ _ _ hF) _ _ rfl rfl rfl rfl  _ hW _ hQ
      have hF := hX
      refine en_ic_gt (by decide +kernel : u_at kl_274 38 = some (.if_icmp .gt 13, [51])) (fun b10 => ?_) (fun b10 => ?_)
      · replace hF := i_pos b10 hF
        obtain rfl := Option.some.inj hF
        exact j9 _ hW
      · replace hF := i_neg b10 hF
        refine en_segs [(41, .aload_n 0, []), (42, .iload_n 2, [])] (by decide +kernel) (y := (43, [some (.ref a0), some (.int x1), some (.int x2)], [.int x2, .ref a0], h)) rfl ?_
        obtain ⟨r11, hr11, hF⟩ := ob_some hF
        refine en_vi (r := []) (by decide +kernel : u_at kl_274 43 = some (.invokevirtual 476, [272, 1, 12])) hW ha0 rfl rfl (Nat.le_of_ble_eq_true rfl) (e_272 (D := D) (by omega) hW ha0 hr11) (fun h' q => ?_)
        subst q
        refine en_if_eq (by decide +kernel : u_at kl_274 46 = some (.ifCond .eq 5, [51])) (fun b12 => ?_) (fun b12 => ?_)
        · replace hF := i_pos b12 hF
          obtain rfl := Option.some.inj hF
          exact j9 _ hW
        · replace hF := i_neg b12 hF
          refine en_segs [(49, .iload_n 2, []), (50, .istore_n 1, [])] (by decide +kernel) (y := (51, [some (.ref a0), some (.int x2), some (.int x2)], [], h)) rfl ?_
          obtain rfl := Option.some.inj hF
          exact j9 _ hW
def F_274 (c12 : Cl) (a0 : Nat) : Option (Int32 × Cl) :=
  F_218 c12 a0 >>= fun r1 =>
  if r1 = 0 then
  some ((-1), c12)
  else
  F_269 c12 a0 >>= fun r3 =>
  ald (cA r3 20 a0) 221 0 >>= fun v4 =>
  G_274 r3 a0 0 [(1 <<< (v4 &&& 31)) - 1, (1 <<< (v4 &&& 31)) - 1] [] []
set_option maxRecDepth 100000 in
set_option maxHeartbeats 4000000 in
/-- HeadCountsModel.watch -/
theorem e_274 {D : Nat} {c0 c1 c2 c3 c4 c5 c6 c7 c8 c9 c10 c11 c12 c13 : Cl} {d : Ad} {h : UH} {a0 : Nat} {r : (Int32 × Cl)} (hD : 6 ≤ D) (hW : HW (mkw c0 c1 c2 c3 c4 c5 c6 c7 c8 c9 c10 c11 c12 c13) d h) (ha0 : aK d a0 = (0, 12, 0)) (hF : F_274 c12 a0 = some r) : ∃ q, EX D 274 [.ref a0] h q ∧ q.1 = some (.int r.1) ∧ HW (mkw c0 c1 c2 c3 c4 c5 c6 c7 c8 c9 c10 c11 r.2 c13) d q.2 := by
  obtain ⟨D, rfl⟩ : ∃ E, D = E + 1 := ⟨D - 1, by omega⟩
  unfold F_274 at hF
  refine ex_in (kl := kl_274) (nL := 3) rfl (by decide +kernel) (Nat.le_of_ble_eq_true rfl) ?_
  obtain ⟨QQ, hQQ⟩ : ∃ QQ : UR → Prop, QQ = (fun q : UR => q.1 = some (.int r.1) ∧ HW (mkw c0 c1 c2 c3 c4 c5 c6 c7 c8 c9 c10 c11 r.2 c13) d q.2) := ⟨_, rfl⟩
  rw [← hQQ]
  have hQ : ∀ h' : UH, HW (mkw c0 c1 c2 c3 c4 c5 c6 c7 c8 c9 c10 c11 r.2 c13) d h' → QQ (some (.int r.1), h') := fun h' p => by rw [hQQ]; exact ⟨rfl, p⟩
  clear hQQ
  show Ends (EX D) (u_at kl_274) (0, [some (.ref a0), none, none], [], h) QQ
  refine en_segs [(0, .aload_n 0, [])] (by decide +kernel) (y := (1, [some (.ref a0), none, none], [.ref a0], h)) rfl ?_
  obtain ⟨r1, hr1, hF⟩ := ob_some hF
  refine en_vi (r := []) (by decide +kernel : u_at kl_274 1 = some (.invokevirtual 409, [218, 0, 12])) hW ha0 rfl rfl (Nat.le_of_ble_eq_true rfl) (e_218 (D := D) (by omega) hW ha0 hr1) (fun h' q => ?_)
  subst q
  refine en_if_ne (by decide +kernel : u_at kl_274 4 = some (.ifCond .ne 5, [9])) (fun b2 => ?_) (fun b2 => ?_)
  · replace hF := i_pos b2 hF
    refine en_segs [(7, .iconst (-1), [])] (by decide +kernel) (y := (8, [some (.ref a0), none, none], [.int (-1)], h)) rfl ?_
    obtain rfl := Option.some.inj hF
    exact en_ret (by decide +kernel : u_at kl_274 8 = some (.ireturn, [0])) rfl (hQ _ hW)
  · replace hF := i_neg b2 hF
    refine en_segs [(9, .aload_n 0, [])] (by decide +kernel) (y := (10, [some (.ref a0), none, none], [.ref a0], h)) rfl ?_
    obtain ⟨r3, hr3, hF⟩ := ob_some hF
    refine en_vv (r := []) (by decide +kernel : u_at kl_274 10 = some (.invokevirtual 473, [269, 0, 12])) hW ha0 rfl rfl (Nat.le_of_ble_eq_true rfl) (e_269 (D := D) (by omega) hW ha0 hr3) (fun h hW => ?_)
    have hW : HW (mkw c0 c1 c2 c3 c4 c5 c6 c7 c8 c9 c10 c11 r3 c13) d h := hW
    refine en_segs [(13, .iconst 1, []), (14, .aload_n 0, [])] (by decide +kernel) (y := (15, [some (.ref a0), none, none], [.ref a0, .int 1], h)) rfl ?_
    refine en_get (by decide +kernel : u_at kl_274 15 = some (.getfield 39, [12, 20])) hW ha0 (by decide) rfl ?_
    refine en_segs [(18, .iconst 0, [])] (by decide +kernel) (y := (19, [some (.ref a0), none, none], [.int 0, .ref (aP d 12 20 a0), .int 1], h)) rfl ?_
    obtain ⟨v4, hv4, hF⟩ := ob_some hF
    refine en_iald (by decide +kernel : u_at kl_274 19 = some (.iaload, [])) hW ha0 rfl (by decide) hv4 ?_
    refine en_segs [(20, .ishl, []), (21, .iconst 1, []), (22, .isub, []), (23, .istore_n 1, []), (24, .iload_n 1, []), (25, .istore_n 2, [])] (by decide +kernel) (y := (26, [some (.ref a0), some (.int ((1 <<< (v4 &&& 31)) - 1)), some (.int ((1 <<< (v4 &&& 31)) - 1))], [], h)) rfl ?_
    exact (g_274 (D := D) hD (d := d) ha0 _ _ _ _ _ hF) _ _ rfl rfl rfl rfl  _ hW _ hQ
def G_275 (a0 : Nat) (lab : Nat) (xs : List Int32) (ys : List Int64) (zs : List Nat) (c12 : Cl) : Option Cl := match lab, xs, ys, zs with
  | 0, [x2], [], [] =>
    if 6 ≤ x2 then
    G_275 a0 1 [0] [] [] c12
    else
    ald (cA c12 24 a0) 6 x2 >>= fun v3 =>
    ast c12 32 a0 6 x2 v3 >>= fun c12_4 =>
    G_275 a0 0 [x2 + 1] [] [] c12_4
  | 1, [x2], [], [] =>
    ald (cA c12 20 a0) 221 3 >>= fun v5 =>
    if v5 ≤ x2 then
    some c12
    else
    F_259 c12 a0 x2 >>= fun r7 =>
    ast c12 33 a0 6 x2 r7 >>= fun c12_8 =>
    G_275 a0 1 [x2 + 1] [] [] c12_8
  | _, _, _, _ => none
partial_fixpoint
set_option maxRecDepth 100000 in
set_option maxHeartbeats 4000000 in
theorem g_275 {D : Nat} (hD : 4 ≤ D + 1) {c0 c1 c2 c3 c4 c5 c6 c7 c8 c9 c10 c11 c13 : Cl} {d : Ad} {a0 : Nat} (ha0 : aK d a0 = (0, 12, 0)) : ∀ (lab : Nat) (xs : List Int32) (ys : List Int64) (zs : List Nat) (c12 : Cl) (r : Cl), G_275 a0 lab xs ys zs c12 = some r →
    (∀ (x2 : Int32), lab = 0 → xs = [x2] → ys = [] → zs = [] → ∀ h : UH, HW (mkw c0 c1 c2 c3 c4 c5 c6 c7 c8 c9 c10 c11 c12 c13) d h → ∀ QQ : UR → Prop, (∀ h' : UH, HW (mkw c0 c1 c2 c3 c4 c5 c6 c7 c8 c9 c10 c11 r c13) d h' → QQ (none, h')) → Ends (EX D) (u_at kl_275) (7, [some (.ref a0), none, some (.int x2)], [], h) QQ) ∧
    (∀ (x2 : Int32), lab = 1 → xs = [x2] → ys = [] → zs = [] → ∀ h : UH, HW (mkw c0 c1 c2 c3 c4 c5 c6 c7 c8 c9 c10 c11 c12 c13) d h → ∀ QQ : UR → Prop, (∀ h' : UH, HW (mkw c0 c1 c2 c3 c4 c5 c6 c7 c8 c9 c10 c11 r c13) d h' → QQ (none, h')) → Ends (EX D) (u_at kl_275) (33, [some (.ref a0), none, some (.int x2)], [], h) QQ) := by
  refine G_275.partial_correctness _ (motive := fun lab xs ys zs c12 r =>
    (∀ (x2 : Int32), lab = 0 → xs = [x2] → ys = [] → zs = [] → ∀ h : UH, HW (mkw c0 c1 c2 c3 c4 c5 c6 c7 c8 c9 c10 c11 c12 c13) d h → ∀ QQ : UR → Prop, (∀ h' : UH, HW (mkw c0 c1 c2 c3 c4 c5 c6 c7 c8 c9 c10 c11 r c13) d h' → QQ (none, h')) → Ends (EX D) (u_at kl_275) (7, [some (.ref a0), none, some (.int x2)], [], h) QQ) ∧
    (∀ (x2 : Int32), lab = 1 → xs = [x2] → ys = [] → zs = [] → ∀ h : UH, HW (mkw c0 c1 c2 c3 c4 c5 c6 c7 c8 c9 c10 c11 c12 c13) d h → ∀ QQ : UR → Prop, (∀ h' : UH, HW (mkw c0 c1 c2 c3 c4 c5 c6 c7 c8 c9 c10 c11 r c13) d h' → QQ (none, h')) → Ends (EX D) (u_at kl_275) (33, [some (.ref a0), none, some (.int x2)], [], h) QQ)) ?_
  intro G ih lab xs ys zs c12 r hF
  refine ⟨?_, ?_⟩
  · intro x2 e1 e2 e3 e4 h hW QQ hQ
    subst e1 e2 e3 e4
    refine en_segs [(7, .iload_n 2, []), (8, .bipush 6, [])] (by decide +kernel) (y := (10, [some (.ref a0), none, some (.int x2)], [.int 6, .int x2], h)) rfl ?_
    refine en_ic_ge (by decide +kernel : u_at kl_275 10 = some (.if_icmp .ge 21, [31])) (fun b2 => ?_) (fun b2 => ?_)
    · replace hF := i_pos b2 hF
      refine en_segs [(31, .iconst 0, []), (32, .istore_n 2, [])] (by decide +kernel) (y := (33, [some (.ref a0), none, some (.int 0)], [], h)) rfl ?_
      exact (ih _ _ _ _ _ _ hF).2 _ rfl rfl rfl rfl  _ hW _ hQ
    · replace hF := i_neg b2 hF
      refine en_segs [(13, .aload_n 0, [])] (by decide +kernel) (y := (14, [some (.ref a0), none, some (.int x2)], [.ref a0], h)) rfl ?_
      refine en_get (by decide +kernel : u_at kl_275 14 = some (.getfield 67, [12, 32])) hW ha0 (by decide) rfl ?_
      refine en_segs [(17, .iload_n 2, []), (18, .aload_n 0, [])] (by decide +kernel) (y := (19, [some (.ref a0), none, some (.int x2)], [.ref a0, .int x2, .ref (aP d 12 32 a0)], h)) rfl ?_
      refine en_get (by decide +kernel : u_at kl_275 19 = some (.getfield 45, [12, 24])) hW ha0 (by decide) rfl ?_
      refine en_segs [(22, .iload_n 2, [])] (by decide +kernel) (y := (23, [some (.ref a0), none, some (.int x2)], [.int x2, .ref (aP d 12 24 a0), .int x2, .ref (aP d 12 32 a0)], h)) rfl ?_
      obtain ⟨v3, hv3, hF⟩ := ob_some hF
      refine en_iald (by decide +kernel : u_at kl_275 23 = some (.iaload, [])) hW ha0 rfl (by decide) hv3 ?_
      obtain ⟨c12_4, hc12_4, hF⟩ := ob_some hF
      refine en_iast (by decide +kernel : u_at kl_275 24 = some (.iastore, [])) hW ha0 rfl (by decide) hc12_4 (fun h hW => ?_)
      have hW : HW (mkw c0 c1 c2 c3 c4 c5 c6 c7 c8 c9 c10 c11 c12_4 c13) d h := hW
      refine en_segs [(25, .iinc 2 1, []), (28, .goto (-21), [7])] (by decide +kernel) (y := (7, [some (.ref a0), none, some (.int (x2 + 1))], [], h)) rfl ?_
      exact (ih _ _ _ _ _ _ hF).1 _ rfl rfl rfl rfl  _ hW _ hQ
  · intro x2 e1 e2 e3 e4 h hW QQ hQ
    subst e1 e2 e3 e4
    refine en_segs [(33, .iload_n 2, []), (34, .aload_n 0, [])] (by decide +kernel) (y := (35, [some (.ref a0), none, some (.int x2)], [.ref a0, .int x2], h)) rfl ?_
    refine en_get (by decide +kernel : u_at kl_275 35 = some (.getfield 39, [12, 20])) hW ha0 (by decide) rfl ?_
    refine en_segs [(38, .iconst 3, [])] (by decide +kernel) (y := (39, [some (.ref a0), none, some (.int x2)], [.int 3, .ref (aP d 12 20 a0), .int x2], h)) rfl ?_
    obtain ⟨v5, hv5, hF⟩ := ob_some hF
    refine en_iald (by decide +kernel : u_at kl_275 39 = some (.iaload, [])) hW ha0 rfl (by decide) hv5 ?_
    refine en_ic_ge (by decide +kernel : u_at kl_275 40 = some (.if_icmp .ge 20, [60])) (fun b6 => ?_) (fun b6 => ?_)
    · replace hF := i_pos b6 hF
      obtain rfl := Option.some.inj hF
      exact en_ret (by decide +kernel : u_at kl_275 60 = some (.return_, [])) rfl (hQ _ hW)
    · replace hF := i_neg b6 hF
      refine en_segs [(43, .aload_n 0, [])] (by decide +kernel) (y := (44, [some (.ref a0), none, some (.int x2)], [.ref a0], h)) rfl ?_
      refine en_get (by decide +kernel : u_at kl_275 44 = some (.getfield 70, [12, 33])) hW ha0 (by decide) rfl ?_
      refine en_segs [(47, .iload_n 2, []), (48, .aload_n 0, []), (49, .iload_n 2, [])] (by decide +kernel) (y := (50, [some (.ref a0), none, some (.int x2)], [.int x2, .ref a0, .int x2, .ref (aP d 12 33 a0)], h)) rfl ?_
      obtain ⟨r7, hr7, hF⟩ := ob_some hF
      refine en_vi (r := [.int x2, .ref (aP d 12 33 a0)]) (by decide +kernel : u_at kl_275 50 = some (.invokevirtual 440, [259, 1, 12])) hW ha0 rfl rfl (Nat.le_of_ble_eq_true rfl) (e_259 (D := D) (by omega) hW ha0 hr7) (fun h' q => ?_)
      subst q
      obtain ⟨c12_8, hc12_8, hF⟩ := ob_some hF
      refine en_iast (by decide +kernel : u_at kl_275 53 = some (.iastore, [])) hW ha0 rfl (by decide) hc12_8 (fun h hW => ?_)
      have hW : HW (mkw c0 c1 c2 c3 c4 c5 c6 c7 c8 c9 c10 c11 c12_8 c13) d h := hW
      refine en_segs [(54, .iinc 2 1, []), (57, .goto (-24), [33])] (by decide +kernel) (y := (33, [some (.ref a0), none, some (.int (x2 + 1))], [], h)) rfl ?_
      exact (ih _ _ _ _ _ _ hF).2 _ rfl rfl rfl rfl  _ hW _ hQ
def F_275 (c12 : Cl) (a0 : Nat) (p1 : Int32) : Option Cl :=
  F_255 c12 a0 p1 >>= fun r1 =>
  G_275 a0 0 [0] [] [] r1
set_option maxRecDepth 100000 in
set_option maxHeartbeats 4000000 in
/-- HeadCountsModel.begins -/
theorem e_275 {D : Nat} {c0 c1 c2 c3 c4 c5 c6 c7 c8 c9 c10 c11 c12 c13 : Cl} {d : Ad} {h : UH} {a0 : Nat} {p1 : Int32} {r : Cl} (hD : 4 ≤ D) (hW : HW (mkw c0 c1 c2 c3 c4 c5 c6 c7 c8 c9 c10 c11 c12 c13) d h) (ha0 : aK d a0 = (0, 12, 0)) (hF : F_275 c12 a0 p1 = some r) : ∃ q, EX D 275 [.ref a0, .int p1] h q ∧ q.1 = none ∧ HW (mkw c0 c1 c2 c3 c4 c5 c6 c7 c8 c9 c10 c11 r c13) d q.2 := by
  obtain ⟨D, rfl⟩ : ∃ E, D = E + 1 := ⟨D - 1, by omega⟩
  unfold F_275 at hF
  refine ex_in (kl := kl_275) (nL := 3) rfl (by decide +kernel) (Nat.le_of_ble_eq_true rfl) ?_
  obtain ⟨QQ, hQQ⟩ : ∃ QQ : UR → Prop, QQ = (fun q : UR => q.1 = none ∧ HW (mkw c0 c1 c2 c3 c4 c5 c6 c7 c8 c9 c10 c11 r c13) d q.2) := ⟨_, rfl⟩
  rw [← hQQ]
  have hQ : ∀ h' : UH, HW (mkw c0 c1 c2 c3 c4 c5 c6 c7 c8 c9 c10 c11 r c13) d h' → QQ (none, h') := fun h' p => by rw [hQQ]; exact ⟨rfl, p⟩
  clear hQQ
  show Ends (EX D) (u_at kl_275) (0, [some (.ref a0), some (.int p1), none], [], h) QQ
  refine en_segs [(0, .aload_n 0, []), (1, .iload_n 1, [])] (by decide +kernel) (y := (2, [some (.ref a0), some (.int p1), none], [.int p1, .ref a0], h)) rfl ?_
  obtain ⟨r1, hr1, hF⟩ := ob_some hF
  refine en_vv (r := []) (by decide +kernel : u_at kl_275 2 = some (.invokevirtual 434, [255, 1, 12])) hW ha0 rfl rfl (Nat.le_of_ble_eq_true rfl) (e_255 (D := D) (by omega) hW ha0 hr1) (fun h hW => ?_)
  have hW : HW (mkw c0 c1 c2 c3 c4 c5 c6 c7 c8 c9 c10 c11 r1 c13) d h := hW
  refine en_segs [(5, .iconst 0, []), (6, .istore_n 2, [])] (by decide +kernel) (y := (7, [some (.ref a0), some (.int p1), some (.int 0)], [], h)) rfl ?_
  refine en_fg (fg_k (fg_d (fg_k fg_0))) ?_
  exact (g_275 (D := D) hD (d := d) ha0 _ _ _ _ _ _ hF).1 _ rfl rfl rfl rfl  _ hW _ hQ
def G_276 (c12 : Cl) (a0 : Nat) (lab : Nat) (xs : List Int32) (ys : List Int64) (zs : List Nat) : Option Int32 := match lab, xs, ys, zs with
  | 0, [x1], [], [] =>
    ald (cA c12 20 a0) 221 3 >>= fun v1 =>
    if v1 ≤ x1 then
    G_276 c12 a0 1 [0] [] []
    else
    F_259 c12 a0 x1 >>= fun r3 =>
    ald (cA c12 33 a0) 6 x1 >>= fun v4 =>
    if r3 = v4 then
    G_276 c12 a0 0 [x1 + 1] [] []
    else
    some 0
  | 1, [x1], [], [] =>
    ald (cA c12 20 a0) 221 0 >>= fun v6 =>
    if v6 ≤ x1 then
    some 1
    else
    F_258 c12 a0 x1 >>= fun r8 =>
    ald (cA c12 20 a0) 221 (82 + x1) >>= fun v9 =>
    if r8 ≤ v9 then
    G_276 c12 a0 1 [x1 + 1] [] []
    else
    some 0
  | _, _, _, _ => none
partial_fixpoint
set_option maxRecDepth 100000 in
set_option maxHeartbeats 4000000 in
theorem g_276 {D : Nat} (hD : 4 ≤ D + 1) {c0 c1 c2 c3 c4 c5 c6 c7 c8 c9 c10 c11 c12 c13 : Cl} {d : Ad} {a0 : Nat} (ha0 : aK d a0 = (0, 12, 0)) : ∀ (lab : Nat) (xs : List Int32) (ys : List Int64) (zs : List Nat) (r : Int32), G_276 c12 a0 lab xs ys zs = some r →
    (∀ (x1 : Int32), lab = 0 → xs = [x1] → ys = [] → zs = [] → ∀ h : UH, HW (mkw c0 c1 c2 c3 c4 c5 c6 c7 c8 c9 c10 c11 c12 c13) d h → ∀ QQ : UR → Prop, QQ (some (.int r), h) → Ends (EX D) (u_at kl_276) (2, [some (.ref a0), some (.int x1)], [], h) QQ) ∧
    (∀ (x1 : Int32), lab = 1 → xs = [x1] → ys = [] → zs = [] → ∀ h : UH, HW (mkw c0 c1 c2 c3 c4 c5 c6 c7 c8 c9 c10 c11 c12 c13) d h → ∀ QQ : UR → Prop, QQ (some (.int r), h) → Ends (EX D) (u_at kl_276) (36, [some (.ref a0), some (.int x1)], [], h) QQ) := by
  refine G_276.partial_correctness _ _ (motive := fun lab xs ys zs r =>
    (∀ (x1 : Int32), lab = 0 → xs = [x1] → ys = [] → zs = [] → ∀ h : UH, HW (mkw c0 c1 c2 c3 c4 c5 c6 c7 c8 c9 c10 c11 c12 c13) d h → ∀ QQ : UR → Prop, QQ (some (.int r), h) → Ends (EX D) (u_at kl_276) (2, [some (.ref a0), some (.int x1)], [], h) QQ) ∧
    (∀ (x1 : Int32), lab = 1 → xs = [x1] → ys = [] → zs = [] → ∀ h : UH, HW (mkw c0 c1 c2 c3 c4 c5 c6 c7 c8 c9 c10 c11 c12 c13) d h → ∀ QQ : UR → Prop, QQ (some (.int r), h) → Ends (EX D) (u_at kl_276) (36, [some (.ref a0), some (.int x1)], [], h) QQ)) ?_
  intro G ih lab xs ys zs r hF
  refine ⟨?_, ?_⟩
  · intro x1 e1 e2 e3 e4 h hW QQ hQ
    subst e1 e2 e3 e4
    refine en_segs [(2, .iload_n 1, []), (3, .aload_n 0, [])] (by decide +kernel) (y := (4, [some (.ref a0), some (.int x1)], [.ref a0, .int x1], h)) rfl ?_
    refine en_get (by decide +kernel : u_at kl_276 4 = some (.getfield 39, [12, 20])) hW ha0 (by decide) rfl ?_
    refine en_segs [(7, .iconst 3, [])] (by decide +kernel) (y := (8, [some (.ref a0), some (.int x1)], [.int 3, .ref (aP d 12 20 a0), .int x1], h)) rfl ?_
    obtain ⟨v1, hv1, hF⟩ := ob_some hF
    refine en_iald (by decide +kernel : u_at kl_276 8 = some (.iaload, [])) hW ha0 rfl (by decide) hv1 ?_
    refine en_ic_ge (by decide +kernel : u_at kl_276 9 = some (.if_icmp .ge 25, [34])) (fun b2 => ?_) (fun b2 => ?_)
    · replace hF := i_pos b2 hF
      refine en_segs [(34, .iconst 0, []), (35, .istore_n 1, [])] (by decide +kernel) (y := (36, [some (.ref a0), some (.int 0)], [], h)) rfl ?_
      exact (ih _ _ _ _ _ hF).2 _ rfl rfl rfl rfl  _ hW _ hQ
    · replace hF := i_neg b2 hF
      refine en_segs [(12, .aload_n 0, []), (13, .iload_n 1, [])] (by decide +kernel) (y := (14, [some (.ref a0), some (.int x1)], [.int x1, .ref a0], h)) rfl ?_
      obtain ⟨r3, hr3, hF⟩ := ob_some hF
      refine en_vi (r := []) (by decide +kernel : u_at kl_276 14 = some (.invokevirtual 440, [259, 1, 12])) hW ha0 rfl rfl (Nat.le_of_ble_eq_true rfl) (e_259 (D := D) (by omega) hW ha0 hr3) (fun h' q => ?_)
      subst q
      refine en_segs [(17, .aload_n 0, [])] (by decide +kernel) (y := (18, [some (.ref a0), some (.int x1)], [.ref a0, .int r3], h)) rfl ?_
      refine en_get (by decide +kernel : u_at kl_276 18 = some (.getfield 70, [12, 33])) hW ha0 (by decide) rfl ?_
      refine en_segs [(21, .iload_n 1, [])] (by decide +kernel) (y := (22, [some (.ref a0), some (.int x1)], [.int x1, .ref (aP d 12 33 a0), .int r3], h)) rfl ?_
      obtain ⟨v4, hv4, hF⟩ := ob_some hF
      refine en_iald (by decide +kernel : u_at kl_276 22 = some (.iaload, [])) hW ha0 rfl (by decide) hv4 ?_
      refine en_ic_eq (by decide +kernel : u_at kl_276 23 = some (.if_icmp .eq 5, [28])) (fun b5 => ?_) (fun b5 => ?_)
      · replace hF := i_pos b5 hF
        refine en_segs [(28, .iinc 1 1, []), (31, .goto (-29), [2])] (by decide +kernel) (y := (2, [some (.ref a0), some (.int (x1 + 1))], [], h)) rfl ?_
        exact (ih _ _ _ _ _ hF).1 _ rfl rfl rfl rfl  _ hW _ hQ
      · replace hF := i_neg b5 hF
        refine en_segs [(26, .iconst 0, [])] (by decide +kernel) (y := (27, [some (.ref a0), some (.int x1)], [.int 0], h)) rfl ?_
        obtain rfl := Option.some.inj hF
        exact en_ret (by decide +kernel : u_at kl_276 27 = some (.ireturn, [1])) rfl (hQ)
  · intro x1 e1 e2 e3 e4 h hW QQ hQ
    subst e1 e2 e3 e4
    refine en_segs [(36, .iload_n 1, []), (37, .aload_n 0, [])] (by decide +kernel) (y := (38, [some (.ref a0), some (.int x1)], [.ref a0, .int x1], h)) rfl ?_
    refine en_get (by decide +kernel : u_at kl_276 38 = some (.getfield 39, [12, 20])) hW ha0 (by decide) rfl ?_
    refine en_segs [(41, .iconst 0, [])] (by decide +kernel) (y := (42, [some (.ref a0), some (.int x1)], [.int 0, .ref (aP d 12 20 a0), .int x1], h)) rfl ?_
    obtain ⟨v6, hv6, hF⟩ := ob_some hF
    refine en_iald (by decide +kernel : u_at kl_276 42 = some (.iaload, [])) hW ha0 rfl (by decide) hv6 ?_
    refine en_ic_ge (by decide +kernel : u_at kl_276 43 = some (.if_icmp .ge 28, [71])) (fun b7 => ?_) (fun b7 => ?_)
    · replace hF := i_pos b7 hF
      refine en_segs [(71, .iconst 1, [])] (by decide +kernel) (y := (72, [some (.ref a0), some (.int x1)], [.int 1], h)) rfl ?_
      obtain rfl := Option.some.inj hF
      exact en_ret (by decide +kernel : u_at kl_276 72 = some (.ireturn, [1])) rfl (hQ)
    · replace hF := i_neg b7 hF
      refine en_segs [(46, .aload_n 0, []), (47, .iload_n 1, [])] (by decide +kernel) (y := (48, [some (.ref a0), some (.int x1)], [.int x1, .ref a0], h)) rfl ?_
      obtain ⟨r8, hr8, hF⟩ := ob_some hF
      refine en_vi (r := []) (by decide +kernel : u_at kl_276 48 = some (.invokevirtual 437, [258, 1, 12])) hW ha0 rfl rfl (Nat.le_of_ble_eq_true rfl) (e_258 (D := D) (by omega) hW ha0 hr8) (fun h' q => ?_)
      subst q
      refine en_segs [(51, .aload_n 0, [])] (by decide +kernel) (y := (52, [some (.ref a0), some (.int x1)], [.ref a0, .int r8], h)) rfl ?_
      refine en_get (by decide +kernel : u_at kl_276 52 = some (.getfield 39, [12, 20])) hW ha0 (by decide) rfl ?_
      refine en_segs [(55, .bipush 82, []), (57, .iload_n 1, []), (58, .iadd, [])] (by decide +kernel) (y := (59, [some (.ref a0), some (.int x1)], [.int (82 + x1), .ref (aP d 12 20 a0), .int r8], h)) rfl ?_
      obtain ⟨v9, hv9, hF⟩ := ob_some hF
      refine en_iald (by decide +kernel : u_at kl_276 59 = some (.iaload, [])) hW ha0 rfl (by decide) hv9 ?_
      refine en_ic_le (by decide +kernel : u_at kl_276 60 = some (.if_icmp .le 5, [65])) (fun b10 => ?_) (fun b10 => ?_)
      · replace hF := i_pos b10 hF
        refine en_segs [(65, .iinc 1 1, []), (68, .goto (-32), [36])] (by decide +kernel) (y := (36, [some (.ref a0), some (.int (x1 + 1))], [], h)) rfl ?_
        exact (ih _ _ _ _ _ hF).2 _ rfl rfl rfl rfl  _ hW _ hQ
      · replace hF := i_neg b10 hF
        refine en_segs [(63, .iconst 0, [])] (by decide +kernel) (y := (64, [some (.ref a0), some (.int x1)], [.int 0], h)) rfl ?_
        obtain rfl := Option.some.inj hF
        exact en_ret (by decide +kernel : u_at kl_276 64 = some (.ireturn, [1])) rfl (hQ)
def F_276 (c12 : Cl) (a0 : Nat) : Option Int32 :=
  G_276 c12 a0 0 [0] [] []
set_option maxRecDepth 100000 in
set_option maxHeartbeats 4000000 in
/-- HeadCountsModel.isSecret -/
theorem e_276 {D : Nat} {c0 c1 c2 c3 c4 c5 c6 c7 c8 c9 c10 c11 c12 c13 : Cl} {d : Ad} {h : UH} {a0 : Nat} {r : Int32} (hD : 4 ≤ D) (hW : HW (mkw c0 c1 c2 c3 c4 c5 c6 c7 c8 c9 c10 c11 c12 c13) d h) (ha0 : aK d a0 = (0, 12, 0)) (hF : F_276 c12 a0 = some r) : ∃ q, EX D 276 [.ref a0] h q ∧ q.1 = some (.int r) ∧ h = q.2 := by
  obtain ⟨D, rfl⟩ : ∃ E, D = E + 1 := ⟨D - 1, by omega⟩
  unfold F_276 at hF
  refine ex_in (kl := kl_276) (nL := 2) rfl (by decide +kernel) (Nat.le_of_ble_eq_true rfl) ?_
  obtain ⟨QQ, hQQ⟩ : ∃ QQ : UR → Prop, QQ = (fun q : UR => q.1 = some (.int r) ∧ h = q.2) := ⟨_, rfl⟩
  rw [← hQQ]
  have hQ : QQ (some (.int r), h) := by rw [hQQ]; exact ⟨rfl, rfl⟩
  clear hQQ
  show Ends (EX D) (u_at kl_276) (0, [some (.ref a0), none], [], h) QQ
  refine en_segs [(0, .iconst 0, []), (1, .istore_n 1, [])] (by decide +kernel) (y := (2, [some (.ref a0), some (.int 0)], [], h)) rfl ?_
  exact (g_276 (D := D) hD (d := d) ha0 _ _ _ _ _ hF).1 _ rfl rfl rfl rfl  _ hW _ hQ
def G_277 (c12 : Cl) (a0 : Nat) (lab : Nat) (xs : List Int32) (ys : List Int64) (zs : List Nat) : Option Int32 := match lab, xs, ys, zs with
  | 0, [x1, x2], [], [] =>
    ald (cA c12 20 a0) 221 2 >>= fun v1 =>
    if v1 ≤ x2 then
    some x1
    else
    ald (cA c12 24 a0) 6 x2 >>= fun v3 =>
    ald (cA c12 32 a0) 6 x2 >>= fun v4 =>
    if v3 = v4 then
    G_277 c12 a0 0 [x1, x2 + 1] [] []
    else
    ald (cA c12 32 a0) 6 x2 >>= fun v6 =>
    F_232 c12 a0 v6 >>= fun r7 =>
    ald (cA c12 24 a0) 6 x2 >>= fun v8 =>
    F_171 r7 v8 >>= fun r9 =>
    if r9 = 0 then
    some (-1)
    else
    G_277 c12 a0 0 [x1 + 1, x2 + 1] [] []
  | _, _, _, _ => none
partial_fixpoint
set_option maxRecDepth 100000 in
set_option maxHeartbeats 4000000 in
theorem g_277 {D : Nat} (hD : 2 ≤ D + 1) {c0 c1 c2 c3 c4 c5 c6 c7 c8 c9 c10 c11 c12 c13 : Cl} {d : Ad} {a0 : Nat} (ha0 : aK d a0 = (0, 12, 0)) : ∀ (lab : Nat) (xs : List Int32) (ys : List Int64) (zs : List Nat) (r : Int32), G_277 c12 a0 lab xs ys zs = some r →
    (∀ (x1 : Int32) (x2 : Int32), lab = 0 → xs = [x1, x2] → ys = [] → zs = [] → ∀ h : UH, HW (mkw c0 c1 c2 c3 c4 c5 c6 c7 c8 c9 c10 c11 c12 c13) d h → ∀ QQ : UR → Prop, QQ (some (.int r), h) → Ends (EX D) (u_at kl_277) (4, [some (.ref a0), some (.int x1), some (.int x2)], [], h) QQ) := by
  refine G_277.partial_correctness _ _ (motive := fun lab xs ys zs r =>
    (∀ (x1 : Int32) (x2 : Int32), lab = 0 → xs = [x1, x2] → ys = [] → zs = [] → ∀ h : UH, HW (mkw c0 c1 c2 c3 c4 c5 c6 c7 c8 c9 c10 c11 c12 c13) d h → ∀ QQ : UR → Prop, QQ (some (.int r), h) → Ends (EX D) (u_at kl_277) (4, [some (.ref a0), some (.int x1), some (.int x2)], [], h) QQ)) ?_
  intro G ih lab xs ys zs r hF
  · intro x1 x2 e1 e2 e3 e4 h hW QQ hQ
    subst e1 e2 e3 e4
    refine en_segs [(4, .iload_n 2, []), (5, .aload_n 0, [])] (by decide +kernel) (y := (6, [some (.ref a0), some (.int x1), some (.int x2)], [.ref a0, .int x2], h)) rfl ?_
    refine en_get (by decide +kernel : u_at kl_277 6 = some (.getfield 39, [12, 20])) hW ha0 (by decide) rfl ?_
    refine en_segs [(9, .iconst 2, [])] (by decide +kernel) (y := (10, [some (.ref a0), some (.int x1), some (.int x2)], [.int 2, .ref (aP d 12 20 a0), .int x2], h)) rfl ?_
    obtain ⟨v1, hv1, hF⟩ := ob_some hF
    refine en_iald (by decide +kernel : u_at kl_277 10 = some (.iaload, [])) hW ha0 rfl (by decide) hv1 ?_
    refine en_ic_ge (by decide +kernel : u_at kl_277 11 = some (.if_icmp .ge 54, [65])) (fun b2 => ?_) (fun b2 => ?_)
    · replace hF := i_pos b2 hF
      refine en_segs [(65, .iload_n 1, [])] (by decide +kernel) (y := (66, [some (.ref a0), some (.int x1), some (.int x2)], [.int x1], h)) rfl ?_
      obtain rfl := Option.some.inj hF
      exact en_ret (by decide +kernel : u_at kl_277 66 = some (.ireturn, [0])) rfl (hQ)
    · replace hF := i_neg b2 hF
      refine en_segs [(14, .aload_n 0, [])] (by decide +kernel) (y := (15, [some (.ref a0), some (.int x1), some (.int x2)], [.ref a0], h)) rfl ?_
      refine en_get (by decide +kernel : u_at kl_277 15 = some (.getfield 45, [12, 24])) hW ha0 (by decide) rfl ?_
      refine en_segs [(18, .iload_n 2, [])] (by decide +kernel) (y := (19, [some (.ref a0), some (.int x1), some (.int x2)], [.int x2, .ref (aP d 12 24 a0)], h)) rfl ?_
      obtain ⟨v3, hv3, hF⟩ := ob_some hF
      refine en_iald (by decide +kernel : u_at kl_277 19 = some (.iaload, [])) hW ha0 rfl (by decide) hv3 ?_
      refine en_segs [(20, .aload_n 0, [])] (by decide +kernel) (y := (21, [some (.ref a0), some (.int x1), some (.int x2)], [.ref a0, .int v3], h)) rfl ?_
      refine en_get (by decide +kernel : u_at kl_277 21 = some (.getfield 67, [12, 32])) hW ha0 (by decide) rfl ?_
      refine en_segs [(24, .iload_n 2, [])] (by decide +kernel) (y := (25, [some (.ref a0), some (.int x1), some (.int x2)], [.int x2, .ref (aP d 12 32 a0), .int v3], h)) rfl ?_
      obtain ⟨v4, hv4, hF⟩ := ob_some hF
      refine en_iald (by decide +kernel : u_at kl_277 25 = some (.iaload, [])) hW ha0 rfl (by decide) hv4 ?_
      refine en_ic_ne (by decide +kernel : u_at kl_277 26 = some (.if_icmp .ne 6, [32])) (fun b5 => ?_) (fun b5 => ?_)
      · replace hF := i_pos b5 hF
        refine en_segs [(29, .goto 30, [59]), (59, .iinc 2 1, []), (62, .goto (-58), [4])] (by decide +kernel) (y := (4, [some (.ref a0), some (.int x1), some (.int (x2 + 1))], [], h)) rfl ?_
        exact (ih _ _ _ _ _ hF) _ _ rfl rfl rfl rfl  _ hW _ hQ
      · replace hF := i_neg b5 hF
        refine en_segs [(32, .aload_n 0, []), (33, .aload_n 0, [])] (by decide +kernel) (y := (34, [some (.ref a0), some (.int x1), some (.int x2)], [.ref a0, .ref a0], h)) rfl ?_
        refine en_get (by decide +kernel : u_at kl_277 34 = some (.getfield 67, [12, 32])) hW ha0 (by decide) rfl ?_
        refine en_segs [(37, .iload_n 2, [])] (by decide +kernel) (y := (38, [some (.ref a0), some (.int x1), some (.int x2)], [.int x2, .ref (aP d 12 32 a0), .ref a0], h)) rfl ?_
        obtain ⟨v6, hv6, hF⟩ := ob_some hF
        refine en_iald (by decide +kernel : u_at kl_277 38 = some (.iaload, [])) hW ha0 rfl (by decide) hv6 ?_
        obtain ⟨r7, hr7, hF⟩ := ob_some hF
        refine en_vi (r := []) (by decide +kernel : u_at kl_277 39 = some (.invokevirtual 378, [232, 1, 12])) hW ha0 rfl rfl (Nat.le_of_ble_eq_true rfl) (e_232 (D := D) (by omega) hW ha0 hr7) (fun h' q => ?_)
        subst q
        refine en_segs [(42, .aload_n 0, [])] (by decide +kernel) (y := (43, [some (.ref a0), some (.int x1), some (.int x2)], [.ref a0, .int r7], h)) rfl ?_
        refine en_get (by decide +kernel : u_at kl_277 43 = some (.getfield 45, [12, 24])) hW ha0 (by decide) rfl ?_
        refine en_segs [(46, .iload_n 2, [])] (by decide +kernel) (y := (47, [some (.ref a0), some (.int x1), some (.int x2)], [.int x2, .ref (aP d 12 24 a0), .int r7], h)) rfl ?_
        obtain ⟨v8, hv8, hF⟩ := ob_some hF
        refine en_iald (by decide +kernel : u_at kl_277 47 = some (.iaload, [])) hW ha0 rfl (by decide) hv8 ?_
        obtain ⟨r9, hr9, hF⟩ := ob_some hF
        refine en_si (r := []) (by decide +kernel : u_at kl_277 48 = some (.invokestatic 361, [171, 2])) rfl rfl (Nat.le_of_ble_eq_true rfl) (e_171 (D := D) (by omega) hW hr9) (fun h' q => ?_)
        subst q
        refine en_if_ne (by decide +kernel : u_at kl_277 51 = some (.ifCond .ne 5, [56])) (fun b10 => ?_) (fun b10 => ?_)
        · replace hF := i_pos b10 hF
          refine en_segs [(54, .iconst (-1), [])] (by decide +kernel) (y := (55, [some (.ref a0), some (.int x1), some (.int x2)], [.int (-1)], h)) rfl ?_
          obtain rfl := Option.some.inj hF
          exact en_ret (by decide +kernel : u_at kl_277 55 = some (.ireturn, [0])) rfl (hQ)
        · replace hF := i_neg b10 hF
          refine en_segs [(56, .iinc 1 1, []), (59, .iinc 2 1, []), (62, .goto (-58), [4])] (by decide +kernel) (y := (4, [some (.ref a0), some (.int (x1 + 1)), some (.int (x2 + 1))], [], h)) rfl ?_
          exact (ih _ _ _ _ _ hF) _ _ rfl rfl rfl rfl  _ hW _ hQ
def F_277 (c12 : Cl) (a0 : Nat) : Option Int32 :=
  G_277 c12 a0 0 [0, 0] [] []
set_option maxRecDepth 100000 in
set_option maxHeartbeats 4000000 in
/-- HeadCountsModel.goAtOnce -/
theorem e_277 {D : Nat} {c0 c1 c2 c3 c4 c5 c6 c7 c8 c9 c10 c11 c12 c13 : Cl} {d : Ad} {h : UH} {a0 : Nat} {r : Int32} (hD : 2 ≤ D) (hW : HW (mkw c0 c1 c2 c3 c4 c5 c6 c7 c8 c9 c10 c11 c12 c13) d h) (ha0 : aK d a0 = (0, 12, 0)) (hF : F_277 c12 a0 = some r) : ∃ q, EX D 277 [.ref a0] h q ∧ q.1 = some (.int r) ∧ h = q.2 := by
  obtain ⟨D, rfl⟩ : ∃ E, D = E + 1 := ⟨D - 1, by omega⟩
  unfold F_277 at hF
  refine ex_in (kl := kl_277) (nL := 3) rfl (by decide +kernel) (Nat.le_of_ble_eq_true rfl) ?_
  obtain ⟨QQ, hQQ⟩ : ∃ QQ : UR → Prop, QQ = (fun q : UR => q.1 = some (.int r) ∧ h = q.2) := ⟨_, rfl⟩
  rw [← hQQ]
  have hQ : QQ (some (.int r), h) := by rw [hQQ]; exact ⟨rfl, rfl⟩
  clear hQQ
  show Ends (EX D) (u_at kl_277) (0, [some (.ref a0), none, none], [], h) QQ
  refine en_segs [(0, .iconst 0, []), (1, .istore_n 1, []), (2, .iconst 0, []), (3, .istore_n 2, [])] (by decide +kernel) (y := (4, [some (.ref a0), some (.int 0), some (.int 0)], [], h)) rfl ?_
  exact (g_277 (D := D) hD (d := d) ha0 _ _ _ _ _ hF) _ _ rfl rfl rfl rfl  _ hW _ hQ
def G_278 (a0 : Nat) (lab : Nat) (xs : List Int32) (ys : List Int64) (zs : List Nat) (c12 : Cl) : Option (Int32 × Cl) := match lab, xs, ys, zs with
  | 0, [x1, x2, x3, x4, x5, x6], [], [] =>
    if 46656 ≤ x6 then
    if 0 ≤ x4 then
    if x3 = 0 then
    some (x4, c12)
    else
    F_221 c12 a0 (x3 - 1) >>= fun r16 =>
    ((if r16 = 0 then
    some (-1)
    else
    F_224 c12 a0 (x3 - 1) >>= fun r20 =>
    if r20 = 0 then
    some (-1)
    else
    ald (cA c12 25 a0) 6 (x3 - 1) >>= fun v22 =>
    idv x5 v22 >>= fun v23 =>
    irm v23 6 >>= fun v24 =>
    some v24) : Option (Int32)) >>= fun (t17 : Int32) =>
    some (t17, c12)
    else
    some ((-2), c12)
    else
    ald (cA c12 25 a0) 6 x1 >>= fun v25 =>
    idv x6 v25 >>= fun v26 =>
    irm v26 6 >>= fun v27 =>
    if v27 = x2 then
    F_257 c12 a0 x6 >>= fun r29 =>
    if r29.1 = 0 then
    G_278 a0 0 [x1, x2, x3, x4, x5, x6 + 1] [] [] r29.2
    else
    F_277 r29.2 a0 >>= fun r31 =>
    if r31 < 0 then
    G_278 a0 0 [x1, x2, x3, x4, x5, x6 + 1] [] [] r29.2
    else
    if x4 < 0 then
    G_278 a0 1 [x1, x2, x3, x4, x5, x6, r31] [] [] r29.2
    else
    if x4 ≤ r31 then
    G_278 a0 0 [x1, x2, x3, x4, x5, x6 + 1] [] [] r29.2
    else
    G_278 a0 1 [x1, x2, x3, x4, x5, x6, r31] [] [] r29.2
    else
    G_278 a0 0 [x1, x2, x3, x4, x5, x6 + 1] [] [] c12
  | 1, [x1, x2, x3, x4, x5, x6, x7], [], [] =>
    F_276 c12 a0 >>= fun r35 =>
    ((if r35 = 0 then
    some (x4, x5)
    else
    some (x7, x6)) : Option (Int32 × Int32)) >>= fun (t36 : Int32 × Int32) =>
    G_278 a0 0 [x1, x2, x3, t36.1, t36.2, x6 + 1] [] [] c12
  | _, _, _, _ => none
partial_fixpoint
set_option maxRecDepth 100000 in
set_option maxHeartbeats 4000000 in
theorem g_278 {D : Nat} (hD : 5 ≤ D + 1) {c0 c1 c2 c3 c4 c5 c6 c7 c8 c9 c10 c11 c13 : Cl} {d : Ad} {a0 : Nat} (ha0 : aK d a0 = (0, 12, 0)) : ∀ (lab : Nat) (xs : List Int32) (ys : List Int64) (zs : List Nat) (c12 : Cl) (r : (Int32 × Cl)), G_278 a0 lab xs ys zs c12 = some r →
    (∀ (x1 : Int32) (x2 : Int32) (x3 : Int32) (x4 : Int32) (x5 : Int32) (x6 : Int32), lab = 0 → xs = [x1, x2, x3, x4, x5, x6] → ys = [] → zs = [] → ∀ h : UH, HW (mkw c0 c1 c2 c3 c4 c5 c6 c7 c8 c9 c10 c11 c12 c13) d h → ∀ QQ : UR → Prop, (∀ h' : UH, HW (mkw c0 c1 c2 c3 c4 c5 c6 c7 c8 c9 c10 c11 r.2 c13) d h' → QQ (some (.int r.1), h')) → Ends (EX D) (u_at kl_278) (65, [some (.ref a0), some (.int x1), some (.int x2), some (.int x3), some (.int x4), some (.int x5), some (.int x6), none], [], h) QQ) ∧
    (∀ (x1 : Int32) (x2 : Int32) (x3 : Int32) (x4 : Int32) (x5 : Int32) (x6 : Int32) (x7 : Int32), lab = 1 → xs = [x1, x2, x3, x4, x5, x6, x7] → ys = [] → zs = [] → ∀ h : UH, HW (mkw c0 c1 c2 c3 c4 c5 c6 c7 c8 c9 c10 c11 c12 c13) d h → ∀ QQ : UR → Prop, (∀ h' : UH, HW (mkw c0 c1 c2 c3 c4 c5 c6 c7 c8 c9 c10 c11 r.2 c13) d h' → QQ (some (.int r.1), h')) → Ends (EX D) (u_at kl_278) (123, [some (.ref a0), some (.int x1), some (.int x2), some (.int x3), some (.int x4), some (.int x5), some (.int x6), some (.int x7)], [], h) QQ) := by
  refine G_278.partial_correctness _ (motive := fun lab xs ys zs c12 r =>
    (∀ (x1 : Int32) (x2 : Int32) (x3 : Int32) (x4 : Int32) (x5 : Int32) (x6 : Int32), lab = 0 → xs = [x1, x2, x3, x4, x5, x6] → ys = [] → zs = [] → ∀ h : UH, HW (mkw c0 c1 c2 c3 c4 c5 c6 c7 c8 c9 c10 c11 c12 c13) d h → ∀ QQ : UR → Prop, (∀ h' : UH, HW (mkw c0 c1 c2 c3 c4 c5 c6 c7 c8 c9 c10 c11 r.2 c13) d h' → QQ (some (.int r.1), h')) → Ends (EX D) (u_at kl_278) (65, [some (.ref a0), some (.int x1), some (.int x2), some (.int x3), some (.int x4), some (.int x5), some (.int x6), none], [], h) QQ) ∧
    (∀ (x1 : Int32) (x2 : Int32) (x3 : Int32) (x4 : Int32) (x5 : Int32) (x6 : Int32) (x7 : Int32), lab = 1 → xs = [x1, x2, x3, x4, x5, x6, x7] → ys = [] → zs = [] → ∀ h : UH, HW (mkw c0 c1 c2 c3 c4 c5 c6 c7 c8 c9 c10 c11 c12 c13) d h → ∀ QQ : UR → Prop, (∀ h' : UH, HW (mkw c0 c1 c2 c3 c4 c5 c6 c7 c8 c9 c10 c11 r.2 c13) d h' → QQ (some (.int r.1), h')) → Ends (EX D) (u_at kl_278) (123, [some (.ref a0), some (.int x1), some (.int x2), some (.int x3), some (.int x4), some (.int x5), some (.int x6), some (.int x7)], [], h) QQ)) ?_
  intro G ih lab xs ys zs c12 r hF
  refine ⟨?_, ?_⟩
  · intro x1 x2 x3 x4 x5 x6 e1 e2 e3 e4 h hW QQ hQ
    subst e1 e2 e3 e4
    refine en_segs [(65, .iload 6, []), (67, .ldc 51, [46656])] (by decide +kernel) (y := (69, [some (.ref a0), some (.int x1), some (.int x2), some (.int x3), some (.int x4), some (.int x5), some (.int x6), none], [.int 46656, .int x6], h)) rfl ?_
    refine en_ic_ge (by decide +kernel : u_at kl_278 69 = some (.if_icmp .ge 78, [147])) (fun b13 => ?_) (fun b13 => ?_)
    · replace hF := i_pos b13 hF
      refine en_segs [(147, .iload 4, [])] (by decide +kernel) (y := (149, [some (.ref a0), some (.int x1), some (.int x2), some (.int x3), some (.int x4), some (.int x5), some (.int x6), none], [.int x4], h)) rfl ?_
      refine en_if_ge (by decide +kernel : u_at kl_278 149 = some (.ifCond .ge 6, [155])) (fun b14 => ?_) (fun b14 => ?_)
      · replace hF := i_pos b14 hF
        refine en_segs [(155, .iload_n 3, [])] (by decide +kernel) (y := (156, [some (.ref a0), some (.int x1), some (.int x2), some (.int x3), some (.int x4), some (.int x5), some (.int x6), none], [.int x3], h)) rfl ?_
        refine en_if_ne (by decide +kernel : u_at kl_278 156 = some (.ifCond .ne 6, [162])) (fun b15 => ?_) (fun b15 => ?_)
        · replace hF := i_pos b15 hF
          refine en_segs [(159, .iload 4, [])] (by decide +kernel) (y := (161, [some (.ref a0), some (.int x1), some (.int x2), some (.int x3), some (.int x4), some (.int x5), some (.int x6), none], [.int x4], h)) rfl ?_
          obtain rfl := Option.some.inj hF
          exact en_ret (by decide +kernel : u_at kl_278 161 = some (.ireturn, [0])) rfl (hQ _ hW)
        · replace hF := i_neg b15 hF
          refine en_segs [(162, .aload_n 0, []), (163, .iload_n 3, []), (164, .iconst 1, []), (165, .isub, [])] (by decide +kernel) (y := (166, [some (.ref a0), some (.int x1), some (.int x2), some (.int x3), some (.int x4), some (.int x5), some (.int x6), none], [.int (x3 - 1), .ref a0], h)) rfl ?_
          obtain ⟨r16, hr16, hF⟩ := ob_some hF
          refine en_vi (r := []) (by decide +kernel : u_at kl_278 166 = some (.invokevirtual 367, [221, 1, 12])) hW ha0 rfl rfl (Nat.le_of_ble_eq_true rfl) (e_221 (D := D) (by omega) hW ha0 hr16) (fun h' q => ?_)
          subst q
          obtain ⟨t17, hX, hK⟩ := ob_some hF
          have j18 : ∀ h : UH, HW (mkw c0 c1 c2 c3 c4 c5 c6 c7 c8 c9 c10 c11 c12 c13) d h → Ends (EX D) (u_at kl_278) (200, [some (.ref a0), some (.int x1), some (.int x2), some (.int x3), some (.int x4), some (.int x5), some (.int x6), none], [.int t17], h) QQ := by
            intro h hW
            have hF := hK
            obtain rfl := Option.some.inj hF
            exact en_ret (by decide +kernel : u_at kl_278 200 = some (.ireturn, [0])) rfl (hQ _ hW)
          have hF := hX
          refine en_if_eq (by decide +kernel : u_at kl_278 169 = some (.ifCond .eq 30, [199])) (fun b19 => ?_) (fun b19 => ?_)
          · replace hF := i_pos b19 hF
            refine en_segs [(199, .iconst (-1), [])] (by decide +kernel) (y := (200, [some (.ref a0), some (.int x1), some (.int x2), some (.int x3), some (.int x4), some (.int x5), some (.int x6), none], [.int (-1)], h)) rfl ?_
            obtain rfl := Option.some.inj hF
            exact j18 _ hW
          · replace hF := i_neg b19 hF
            refine en_segs [(172, .aload_n 0, []), (173, .iload_n 3, []), (174, .iconst 1, []), (175, .isub, [])] (by decide +kernel) (y := (176, [some (.ref a0), some (.int x1), some (.int x2), some (.int x3), some (.int x4), some (.int x5), some (.int x6), none], [.int (x3 - 1), .ref a0], h)) rfl ?_
            obtain ⟨r20, hr20, hF⟩ := ob_some hF
            refine en_vi (r := []) (by decide +kernel : u_at kl_278 176 = some (.invokevirtual 346, [224, 1, 12])) hW ha0 rfl rfl (Nat.le_of_ble_eq_true rfl) (e_224 (D := D) (by omega) hW ha0 hr20) (fun h' q => ?_)
            subst q
            refine en_if_eq (by decide +kernel : u_at kl_278 179 = some (.ifCond .eq 20, [199])) (fun b21 => ?_) (fun b21 => ?_)
            · replace hF := i_pos b21 hF
              refine en_segs [(199, .iconst (-1), [])] (by decide +kernel) (y := (200, [some (.ref a0), some (.int x1), some (.int x2), some (.int x3), some (.int x4), some (.int x5), some (.int x6), none], [.int (-1)], h)) rfl ?_
              obtain rfl := Option.some.inj hF
              exact j18 _ hW
            · replace hF := i_neg b21 hF
              refine en_segs [(182, .iload 5, []), (184, .aload_n 0, [])] (by decide +kernel) (y := (185, [some (.ref a0), some (.int x1), some (.int x2), some (.int x3), some (.int x4), some (.int x5), some (.int x6), none], [.ref a0, .int x5], h)) rfl ?_
              refine en_get (by decide +kernel : u_at kl_278 185 = some (.getfield 48, [12, 25])) hW ha0 (by decide) rfl ?_
              refine en_segs [(188, .iload_n 3, []), (189, .iconst 1, []), (190, .isub, [])] (by decide +kernel) (y := (191, [some (.ref a0), some (.int x1), some (.int x2), some (.int x3), some (.int x4), some (.int x5), some (.int x6), none], [.int (x3 - 1), .ref (aP d 12 25 a0), .int x5], h)) rfl ?_
              obtain ⟨v22, hv22, hF⟩ := ob_some hF
              refine en_iald (by decide +kernel : u_at kl_278 191 = some (.iaload, [])) hW ha0 rfl (by decide) hv22 ?_
              obtain ⟨v23, hv23, hF⟩ := ob_some hF
              refine en_idiv (by decide +kernel : u_at kl_278 192 = some (.idiv, [])) hv23 ?_
              refine en_segs [(193, .bipush 6, [])] (by decide +kernel) (y := (195, [some (.ref a0), some (.int x1), some (.int x2), some (.int x3), some (.int x4), some (.int x5), some (.int x6), none], [.int 6, .int v23], h)) rfl ?_
              obtain ⟨v24, hv24, hF⟩ := ob_some hF
              refine en_irem (by decide +kernel : u_at kl_278 195 = some (.irem, [])) hv24 ?_
              refine en_segs [(196, .goto 4, [200])] (by decide +kernel) (y := (200, [some (.ref a0), some (.int x1), some (.int x2), some (.int x3), some (.int x4), some (.int x5), some (.int x6), none], [.int v24], h)) rfl ?_
              obtain rfl := Option.some.inj hF
              exact j18 _ hW
      · replace hF := i_neg b14 hF
        refine en_segs [(152, .bipush (-2), [])] (by decide +kernel) (y := (154, [some (.ref a0), some (.int x1), some (.int x2), some (.int x3), some (.int x4), some (.int x5), some (.int x6), none], [.int (-2)], h)) rfl ?_
        obtain rfl := Option.some.inj hF
        exact en_ret (by decide +kernel : u_at kl_278 154 = some (.ireturn, [0])) rfl (hQ _ hW)
    · replace hF := i_neg b13 hF
      refine en_segs [(72, .iload 6, []), (74, .aload_n 0, [])] (by decide +kernel) (y := (75, [some (.ref a0), some (.int x1), some (.int x2), some (.int x3), some (.int x4), some (.int x5), some (.int x6), none], [.ref a0, .int x6], h)) rfl ?_
      refine en_get (by decide +kernel : u_at kl_278 75 = some (.getfield 48, [12, 25])) hW ha0 (by decide) rfl ?_
      refine en_segs [(78, .iload_n 1, [])] (by decide +kernel) (y := (79, [some (.ref a0), some (.int x1), some (.int x2), some (.int x3), some (.int x4), some (.int x5), some (.int x6), none], [.int x1, .ref (aP d 12 25 a0), .int x6], h)) rfl ?_
      obtain ⟨v25, hv25, hF⟩ := ob_some hF
      refine en_iald (by decide +kernel : u_at kl_278 79 = some (.iaload, [])) hW ha0 rfl (by decide) hv25 ?_
      obtain ⟨v26, hv26, hF⟩ := ob_some hF
      refine en_idiv (by decide +kernel : u_at kl_278 80 = some (.idiv, [])) hv26 ?_
      refine en_segs [(81, .bipush 6, [])] (by decide +kernel) (y := (83, [some (.ref a0), some (.int x1), some (.int x2), some (.int x3), some (.int x4), some (.int x5), some (.int x6), none], [.int 6, .int v26], h)) rfl ?_
      obtain ⟨v27, hv27, hF⟩ := ob_some hF
      refine en_irem (by decide +kernel : u_at kl_278 83 = some (.irem, [])) hv27 ?_
      refine en_segs [(84, .iload_n 2, [])] (by decide +kernel) (y := (85, [some (.ref a0), some (.int x1), some (.int x2), some (.int x3), some (.int x4), some (.int x5), some (.int x6), none], [.int x2, .int v27], h)) rfl ?_
      refine en_ic_ne (by decide +kernel : u_at kl_278 85 = some (.if_icmp .ne 56, [141])) (fun b28 => ?_) (fun b28 => ?_)
      · replace hF := i_pos b28 hF
        refine en_segs [(88, .aload_n 0, []), (89, .iload 6, [])] (by decide +kernel) (y := (91, [some (.ref a0), some (.int x1), some (.int x2), some (.int x3), some (.int x4), some (.int x5), some (.int x6), none], [.int x6, .ref a0], h)) rfl ?_
        obtain ⟨r29, hr29, hF⟩ := ob_some hF
        refine en_vi (r := []) (by decide +kernel : u_at kl_278 91 = some (.invokevirtual 487, [257, 1, 12])) hW ha0 rfl rfl (Nat.le_of_ble_eq_true rfl) (e_257 (D := D) (by omega) hW ha0 hr29) (fun h hW => ?_)
        have hW : HW (mkw c0 c1 c2 c3 c4 c5 c6 c7 c8 c9 c10 c11 r29.2 c13) d h := hW
        refine en_if_ne (by decide +kernel : u_at kl_278 94 = some (.ifCond .ne 6, [100])) (fun b30 => ?_) (fun b30 => ?_)
        · replace hF := i_pos b30 hF
          refine en_segs [(97, .goto 44, [141]), (141, .iinc 6 1, []), (144, .goto (-79), [65])] (by decide +kernel) (y := (65, [some (.ref a0), some (.int x1), some (.int x2), some (.int x3), some (.int x4), some (.int x5), some (.int (x6 + 1)), none], [], h)) rfl ?_
          exact (ih _ _ _ _ _ _ hF).1 _ _ _ _ _ _ rfl rfl rfl rfl  _ hW _ hQ
        · replace hF := i_neg b30 hF
          refine en_segs [(100, .aload_n 0, [])] (by decide +kernel) (y := (101, [some (.ref a0), some (.int x1), some (.int x2), some (.int x3), some (.int x4), some (.int x5), some (.int x6), none], [.ref a0], h)) rfl ?_
          obtain ⟨r31, hr31, hF⟩ := ob_some hF
          refine en_vi (r := []) (by decide +kernel : u_at kl_278 101 = some (.invokevirtual 490, [277, 0, 12])) hW ha0 rfl rfl (Nat.le_of_ble_eq_true rfl) (e_277 (D := D) (by omega) hW ha0 hr31) (fun h' q => ?_)
          subst q
          refine en_segs [(104, .istore 7, []), (106, .iload 7, [])] (by decide +kernel) (y := (108, [some (.ref a0), some (.int x1), some (.int x2), some (.int x3), some (.int x4), some (.int x5), some (.int x6), some (.int r31)], [.int r31], h)) rfl ?_
          refine en_if_lt (by decide +kernel : u_at kl_278 108 = some (.ifCond .lt 33, [141])) (fun b32 => ?_) (fun b32 => ?_)
          · replace hF := i_pos b32 hF
            refine en_segs [(141, .iinc 6 1, []), (144, .goto (-79), [65])] (by decide +kernel) (y := (65, [some (.ref a0), some (.int x1), some (.int x2), some (.int x3), some (.int x4), some (.int x5), some (.int (x6 + 1)), some (.int r31)], [], h)) rfl ?_
            refine en_fg (fg_k (fg_k (fg_k (fg_k (fg_k (fg_k (fg_k (fg_d fg_0)))))))) ?_
            exact (ih _ _ _ _ _ _ hF).1 _ _ _ _ _ _ rfl rfl rfl rfl  _ hW _ hQ
          · replace hF := i_neg b32 hF
            refine en_segs [(111, .iload 4, [])] (by decide +kernel) (y := (113, [some (.ref a0), some (.int x1), some (.int x2), some (.int x3), some (.int x4), some (.int x5), some (.int x6), some (.int r31)], [.int x4], h)) rfl ?_
            refine en_if_lt (by decide +kernel : u_at kl_278 113 = some (.ifCond .lt 10, [123])) (fun b33 => ?_) (fun b33 => ?_)
            · replace hF := i_pos b33 hF
              exact (ih _ _ _ _ _ _ hF).2 _ _ _ _ _ _ _ rfl rfl rfl rfl  _ hW _ hQ
            · replace hF := i_neg b33 hF
              refine en_segs [(116, .iload 7, []), (118, .iload 4, [])] (by decide +kernel) (y := (120, [some (.ref a0), some (.int x1), some (.int x2), some (.int x3), some (.int x4), some (.int x5), some (.int x6), some (.int r31)], [.int x4, .int r31], h)) rfl ?_
              refine en_ic_ge (by decide +kernel : u_at kl_278 120 = some (.if_icmp .ge 21, [141])) (fun b34 => ?_) (fun b34 => ?_)
              · replace hF := i_pos b34 hF
                refine en_segs [(141, .iinc 6 1, []), (144, .goto (-79), [65])] (by decide +kernel) (y := (65, [some (.ref a0), some (.int x1), some (.int x2), some (.int x3), some (.int x4), some (.int x5), some (.int (x6 + 1)), some (.int r31)], [], h)) rfl ?_
                refine en_fg (fg_k (fg_k (fg_k (fg_k (fg_k (fg_k (fg_k (fg_d fg_0)))))))) ?_
                exact (ih _ _ _ _ _ _ hF).1 _ _ _ _ _ _ rfl rfl rfl rfl  _ hW _ hQ
              · replace hF := i_neg b34 hF
                exact (ih _ _ _ _ _ _ hF).2 _ _ _ _ _ _ _ rfl rfl rfl rfl  _ hW _ hQ
      · replace hF := i_neg b28 hF
        refine en_segs [(141, .iinc 6 1, []), (144, .goto (-79), [65])] (by decide +kernel) (y := (65, [some (.ref a0), some (.int x1), some (.int x2), some (.int x3), some (.int x4), some (.int x5), some (.int (x6 + 1)), none], [], h)) rfl ?_
        exact (ih _ _ _ _ _ _ hF).1 _ _ _ _ _ _ rfl rfl rfl rfl  _ hW _ hQ
  · intro x1 x2 x3 x4 x5 x6 x7 e1 e2 e3 e4 h hW QQ hQ
    subst e1 e2 e3 e4
    refine en_segs [(123, .aload_n 0, [])] (by decide +kernel) (y := (124, [some (.ref a0), some (.int x1), some (.int x2), some (.int x3), some (.int x4), some (.int x5), some (.int x6), some (.int x7)], [.ref a0], h)) rfl ?_
    obtain ⟨r35, hr35, hF⟩ := ob_some hF
    refine en_vi (r := []) (by decide +kernel : u_at kl_278 124 = some (.invokevirtual 493, [276, 0, 12])) hW ha0 rfl rfl (Nat.le_of_ble_eq_true rfl) (e_276 (D := D) (by omega) hW ha0 hr35) (fun h' q => ?_)
    subst q
    obtain ⟨t36, hX, hK⟩ := ob_some hF
    have j37 : ∀ h : UH, HW (mkw c0 c1 c2 c3 c4 c5 c6 c7 c8 c9 c10 c11 c12 c13) d h → Ends (EX D) (u_at kl_278) (141, [some (.ref a0), some (.int x1), some (.int x2), some (.int x3), some (.int t36.1), some (.int t36.2), some (.int x6), some (.int x7)], [], h) QQ := by
      intro h hW
      have hF := hK
      refine en_segs [(141, .iinc 6 1, []), (144, .goto (-79), [65])] (by decide +kernel) (y := (65, [some (.ref a0), some (.int x1), some (.int x2), some (.int x3), some (.int t36.1), some (.int t36.2), some (.int (x6 + 1)), some (.int x7)], [], h)) rfl ?_
      refine en_fg (fg_k (fg_k (fg_k (fg_k (fg_k (fg_k (fg_k (fg_d fg_0)))))))) ?_
      exact (ih _ _ _ _ _ _ hF).1 _ _ _ _ _ _ rfl rfl rfl rfl  _ hW _ hQ
    have hF := hX
    refine en_if_ne (by decide +kernel : u_at kl_278 127 = some (.ifCond .ne 6, [133])) (fun b38 => ?_) (fun b38 => ?_)
    · replace hF := i_pos b38 hF
      refine en_segs [(130, .goto 11, [141])] (by decide +kernel) (y := (141, [some (.ref a0), some (.int x1), some (.int x2), some (.int x3), some (.int x4), some (.int x5), some (.int x6), some (.int x7)], [], h)) rfl ?_
      obtain rfl := Option.some.inj hF
      exact j37 _ hW
    · replace hF := i_neg b38 hF
      refine en_segs [(133, .iload 7, []), (135, .istore 4, []), (137, .iload 6, []), (139, .istore 5, [])] (by decide +kernel) (y := (141, [some (.ref a0), some (.int x1), some (.int x2), some (.int x3), some (.int x7), some (.int x6), some (.int x6), some (.int x7)], [], h)) rfl ?_
      obtain rfl := Option.some.inj hF
      exact j37 _ hW
def F_278 (c12 : Cl) (a0 : Nat) (p1 : Int32) (p2 : Int32) (p3 : Int32) : Option (Int32 × Cl) :=
  F_221 c12 a0 p1 >>= fun r1 =>
  if r1 = 0 then
  some ((-1), c12)
  else
  F_224 c12 a0 p1 >>= fun r3 =>
  if r3 = 0 then
  some ((-1), c12)
  else
  F_219 c12 a0 p2 >>= fun r5 =>
  if r5 = 0 then
  some ((-1), c12)
  else
  F_223 c12 a0 p1 0 >>= fun r7 =>
  if r7 = p2 then
  some ((-1), c12)
  else
  F_170 ((p3 : Int32).toInt64) 0 6 >>= fun r9 =>
  if r9 = 0 then
  some ((-1), c12)
  else
  F_256 c12 a0 >>= fun r11 =>
  F_275 c12 a0 r11 >>= fun r12 =>
  G_278 a0 0 [p1, p2, p3, (-1), 0, 0] [] [] r12
set_option maxRecDepth 100000 in
set_option maxHeartbeats 4000000 in
/-- HeadCountsModel.secret -/
theorem e_278 {D : Nat} {c0 c1 c2 c3 c4 c5 c6 c7 c8 c9 c10 c11 c12 c13 : Cl} {d : Ad} {h : UH} {a0 : Nat} {p1 : Int32} {p2 : Int32} {p3 : Int32} {r : (Int32 × Cl)} (hD : 5 ≤ D) (hW : HW (mkw c0 c1 c2 c3 c4 c5 c6 c7 c8 c9 c10 c11 c12 c13) d h) (ha0 : aK d a0 = (0, 12, 0)) (hF : F_278 c12 a0 p1 p2 p3 = some r) : ∃ q, EX D 278 [.ref a0, .int p1, .int p2, .int p3] h q ∧ q.1 = some (.int r.1) ∧ HW (mkw c0 c1 c2 c3 c4 c5 c6 c7 c8 c9 c10 c11 r.2 c13) d q.2 := by
  obtain ⟨D, rfl⟩ : ∃ E, D = E + 1 := ⟨D - 1, by omega⟩
  unfold F_278 at hF
  refine ex_in (kl := kl_278) (nL := 8) rfl (by decide +kernel) (Nat.le_of_ble_eq_true rfl) ?_
  obtain ⟨QQ, hQQ⟩ : ∃ QQ : UR → Prop, QQ = (fun q : UR => q.1 = some (.int r.1) ∧ HW (mkw c0 c1 c2 c3 c4 c5 c6 c7 c8 c9 c10 c11 r.2 c13) d q.2) := ⟨_, rfl⟩
  rw [← hQQ]
  have hQ : ∀ h' : UH, HW (mkw c0 c1 c2 c3 c4 c5 c6 c7 c8 c9 c10 c11 r.2 c13) d h' → QQ (some (.int r.1), h') := fun h' p => by rw [hQQ]; exact ⟨rfl, p⟩
  clear hQQ
  show Ends (EX D) (u_at kl_278) (0, [some (.ref a0), some (.int p1), some (.int p2), some (.int p3), none, none, none, none], [], h) QQ
  refine en_segs [(0, .aload_n 0, []), (1, .iload_n 1, [])] (by decide +kernel) (y := (2, [some (.ref a0), some (.int p1), some (.int p2), some (.int p3), none, none, none, none], [.int p1, .ref a0], h)) rfl ?_
  obtain ⟨r1, hr1, hF⟩ := ob_some hF
  refine en_vi (r := []) (by decide +kernel : u_at kl_278 2 = some (.invokevirtual 367, [221, 1, 12])) hW ha0 rfl rfl (Nat.le_of_ble_eq_true rfl) (e_221 (D := D) (by omega) hW ha0 hr1) (fun h' q => ?_)
  subst q
  refine en_if_eq (by decide +kernel : u_at kl_278 5 = some (.ifCond .eq 41, [46])) (fun b2 => ?_) (fun b2 => ?_)
  · replace hF := i_pos b2 hF
    refine en_segs [(46, .iconst (-1), [])] (by decide +kernel) (y := (47, [some (.ref a0), some (.int p1), some (.int p2), some (.int p3), none, none, none, none], [.int (-1)], h)) rfl ?_
    obtain rfl := Option.some.inj hF
    exact en_ret (by decide +kernel : u_at kl_278 47 = some (.ireturn, [0])) rfl (hQ _ hW)
  · replace hF := i_neg b2 hF
    refine en_segs [(8, .aload_n 0, []), (9, .iload_n 1, [])] (by decide +kernel) (y := (10, [some (.ref a0), some (.int p1), some (.int p2), some (.int p3), none, none, none, none], [.int p1, .ref a0], h)) rfl ?_
    obtain ⟨r3, hr3, hF⟩ := ob_some hF
    refine en_vi (r := []) (by decide +kernel : u_at kl_278 10 = some (.invokevirtual 346, [224, 1, 12])) hW ha0 rfl rfl (Nat.le_of_ble_eq_true rfl) (e_224 (D := D) (by omega) hW ha0 hr3) (fun h' q => ?_)
    subst q
    refine en_if_eq (by decide +kernel : u_at kl_278 13 = some (.ifCond .eq 33, [46])) (fun b4 => ?_) (fun b4 => ?_)
    · replace hF := i_pos b4 hF
      refine en_segs [(46, .iconst (-1), [])] (by decide +kernel) (y := (47, [some (.ref a0), some (.int p1), some (.int p2), some (.int p3), none, none, none, none], [.int (-1)], h)) rfl ?_
      obtain rfl := Option.some.inj hF
      exact en_ret (by decide +kernel : u_at kl_278 47 = some (.ireturn, [0])) rfl (hQ _ hW)
    · replace hF := i_neg b4 hF
      refine en_segs [(16, .aload_n 0, []), (17, .iload_n 2, [])] (by decide +kernel) (y := (18, [some (.ref a0), some (.int p1), some (.int p2), some (.int p3), none, none, none, none], [.int p2, .ref a0], h)) rfl ?_
      obtain ⟨r5, hr5, hF⟩ := ob_some hF
      refine en_vi (r := []) (by decide +kernel : u_at kl_278 18 = some (.invokevirtual 372, [219, 1, 12])) hW ha0 rfl rfl (Nat.le_of_ble_eq_true rfl) (e_219 (D := D) (by omega) hW ha0 hr5) (fun h' q => ?_)
      subst q
      refine en_if_eq (by decide +kernel : u_at kl_278 21 = some (.ifCond .eq 25, [46])) (fun b6 => ?_) (fun b6 => ?_)
      · replace hF := i_pos b6 hF
        refine en_segs [(46, .iconst (-1), [])] (by decide +kernel) (y := (47, [some (.ref a0), some (.int p1), some (.int p2), some (.int p3), none, none, none, none], [.int (-1)], h)) rfl ?_
        obtain rfl := Option.some.inj hF
        exact en_ret (by decide +kernel : u_at kl_278 47 = some (.ireturn, [0])) rfl (hQ _ hW)
      · replace hF := i_neg b6 hF
        refine en_segs [(24, .aload_n 0, []), (25, .iload_n 1, []), (26, .iconst 0, [])] (by decide +kernel) (y := (27, [some (.ref a0), some (.int p1), some (.int p2), some (.int p3), none, none, none, none], [.int 0, .int p1, .ref a0], h)) rfl ?_
        obtain ⟨r7, hr7, hF⟩ := ob_some hF
        refine en_vi (r := []) (by decide +kernel : u_at kl_278 27 = some (.invokevirtual 343, [223, 2, 12])) hW ha0 rfl rfl (Nat.le_of_ble_eq_true rfl) (e_223 (D := D) (by omega) hW ha0 hr7) (fun h' q => ?_)
        subst q
        refine en_segs [(30, .iload_n 2, [])] (by decide +kernel) (y := (31, [some (.ref a0), some (.int p1), some (.int p2), some (.int p3), none, none, none, none], [.int p2, .int r7], h)) rfl ?_
        refine en_ic_eq (by decide +kernel : u_at kl_278 31 = some (.if_icmp .eq 15, [46])) (fun b8 => ?_) (fun b8 => ?_)
        · replace hF := i_pos b8 hF
          refine en_segs [(46, .iconst (-1), [])] (by decide +kernel) (y := (47, [some (.ref a0), some (.int p1), some (.int p2), some (.int p3), none, none, none, none], [.int (-1)], h)) rfl ?_
          obtain rfl := Option.some.inj hF
          exact en_ret (by decide +kernel : u_at kl_278 47 = some (.ireturn, [0])) rfl (hQ _ hW)
        · replace hF := i_neg b8 hF
          refine en_segs [(34, .iload_n 3, []), (35, .i2l, []), (36, .lconst 0, []), (37, .ldc2_w 482, [6])] (by decide +kernel) (y := (40, [some (.ref a0), some (.int p1), some (.int p2), some (.int p3), none, none, none, none], [.long 6, .long 0, .long ((p3 : Int32).toInt64)], h)) rfl ?_
          obtain ⟨r9, hr9, hF⟩ := ob_some hF
          refine en_si (r := []) (by decide +kernel : u_at kl_278 40 = some (.invokestatic 161, [170, 3])) rfl rfl (Nat.le_of_ble_eq_true rfl) (e_170 (D := D) (by omega) hW hr9) (fun h' q => ?_)
          subst q
          refine en_if_ne (by decide +kernel : u_at kl_278 43 = some (.ifCond .ne 5, [48])) (fun b10 => ?_) (fun b10 => ?_)
          · replace hF := i_pos b10 hF
            refine en_segs [(46, .iconst (-1), [])] (by decide +kernel) (y := (47, [some (.ref a0), some (.int p1), some (.int p2), some (.int p3), none, none, none, none], [.int (-1)], h)) rfl ?_
            obtain rfl := Option.some.inj hF
            exact en_ret (by decide +kernel : u_at kl_278 47 = some (.ireturn, [0])) rfl (hQ _ hW)
          · replace hF := i_neg b10 hF
            refine en_segs [(48, .aload_n 0, []), (49, .aload_n 0, [])] (by decide +kernel) (y := (50, [some (.ref a0), some (.int p1), some (.int p2), some (.int p3), none, none, none, none], [.ref a0, .ref a0], h)) rfl ?_
            obtain ⟨r11, hr11, hF⟩ := ob_some hF
            refine en_vi (r := [.ref a0]) (by decide +kernel : u_at kl_278 50 = some (.invokevirtual 446, [256, 0, 12])) hW ha0 rfl rfl (Nat.le_of_ble_eq_true rfl) (e_256 (D := D) (by omega) hW ha0 hr11) (fun h' q => ?_)
            subst q
            obtain ⟨r12, hr12, hF⟩ := ob_some hF
            refine en_vv (r := []) (by decide +kernel : u_at kl_278 53 = some (.invokevirtual 484, [275, 1, 12])) hW ha0 rfl rfl (Nat.le_of_ble_eq_true rfl) (e_275 (D := D) (by omega) hW ha0 hr12) (fun h hW => ?_)
            have hW : HW (mkw c0 c1 c2 c3 c4 c5 c6 c7 c8 c9 c10 c11 r12 c13) d h := hW
            refine en_segs [(56, .iconst (-1), []), (57, .istore 4, []), (59, .iconst 0, []), (60, .istore 5, []), (62, .iconst 0, []), (63, .istore 6, [])] (by decide +kernel) (y := (65, [some (.ref a0), some (.int p1), some (.int p2), some (.int p3), some (.int (-1)), some (.int 0), some (.int 0), none], [], h)) rfl ?_
            exact (g_278 (D := D) hD (d := d) ha0 _ _ _ _ _ _ hF).1 _ _ _ _ _ _ rfl rfl rfl rfl  _ hW _ hQ
def G_279 (a0 : Nat) (lab : Nat) (xs : List Int32) (ys : List Int64) (zs : List Nat) (c12 : Cl) : Option Cl := match lab, xs, ys, zs with
  | 0, [x1, x2], [], [] =>
    if x2 ≤ 0 then
    G_279 a0 1 [x1, x2] [] [] c12
    else
    ald (cA c12 38 a0) 420 (x2 - 1) >>= fun v2 =>
    if v2 ≤ x1 then
    G_279 a0 1 [x1, x2] [] [] c12
    else
    ald (cA c12 38 a0) 420 (x2 - 1) >>= fun v4 =>
    ast c12 38 a0 420 x2 v4 >>= fun c12_5 =>
    G_279 a0 0 [x1, x2 + (-1)] [] [] c12_5
  | 1, [x1, x2], [], [] =>
    ast c12 38 a0 420 x2 x1 >>= fun c12_6 =>
    some (sI c12_6 39 a0 ((cI c12_6 39 a0) + 1)) >>= fun c12_7 =>
    some c12_7
  | _, _, _, _ => none
partial_fixpoint
set_option maxRecDepth 100000 in
set_option maxHeartbeats 4000000 in
theorem g_279 {D : Nat} (hD : 1 ≤ D + 1) {c0 c1 c2 c3 c4 c5 c6 c7 c8 c9 c10 c11 c13 : Cl} {d : Ad} {a0 : Nat} (ha0 : aK d a0 = (0, 12, 0)) : ∀ (lab : Nat) (xs : List Int32) (ys : List Int64) (zs : List Nat) (c12 : Cl) (r : Cl), G_279 a0 lab xs ys zs c12 = some r →
    (∀ (x1 : Int32) (x2 : Int32), lab = 0 → xs = [x1, x2] → ys = [] → zs = [] → ∀ h : UH, HW (mkw c0 c1 c2 c3 c4 c5 c6 c7 c8 c9 c10 c11 c12 c13) d h → ∀ QQ : UR → Prop, (∀ h' : UH, HW (mkw c0 c1 c2 c3 c4 c5 c6 c7 c8 c9 c10 c11 r c13) d h' → QQ (none, h')) → Ends (EX D) (u_at kl_279) (5, [some (.ref a0), some (.int x1), some (.int x2)], [], h) QQ) ∧
    (∀ (x1 : Int32) (x2 : Int32), lab = 1 → xs = [x1, x2] → ys = [] → zs = [] → ∀ h : UH, HW (mkw c0 c1 c2 c3 c4 c5 c6 c7 c8 c9 c10 c11 c12 c13) d h → ∀ QQ : UR → Prop, (∀ h' : UH, HW (mkw c0 c1 c2 c3 c4 c5 c6 c7 c8 c9 c10 c11 r c13) d h' → QQ (none, h')) → Ends (EX D) (u_at kl_279) (41, [some (.ref a0), some (.int x1), some (.int x2)], [], h) QQ) := by
  refine G_279.partial_correctness _ (motive := fun lab xs ys zs c12 r =>
    (∀ (x1 : Int32) (x2 : Int32), lab = 0 → xs = [x1, x2] → ys = [] → zs = [] → ∀ h : UH, HW (mkw c0 c1 c2 c3 c4 c5 c6 c7 c8 c9 c10 c11 c12 c13) d h → ∀ QQ : UR → Prop, (∀ h' : UH, HW (mkw c0 c1 c2 c3 c4 c5 c6 c7 c8 c9 c10 c11 r c13) d h' → QQ (none, h')) → Ends (EX D) (u_at kl_279) (5, [some (.ref a0), some (.int x1), some (.int x2)], [], h) QQ) ∧
    (∀ (x1 : Int32) (x2 : Int32), lab = 1 → xs = [x1, x2] → ys = [] → zs = [] → ∀ h : UH, HW (mkw c0 c1 c2 c3 c4 c5 c6 c7 c8 c9 c10 c11 c12 c13) d h → ∀ QQ : UR → Prop, (∀ h' : UH, HW (mkw c0 c1 c2 c3 c4 c5 c6 c7 c8 c9 c10 c11 r c13) d h' → QQ (none, h')) → Ends (EX D) (u_at kl_279) (41, [some (.ref a0), some (.int x1), some (.int x2)], [], h) QQ)) ?_
  intro G ih lab xs ys zs c12 r hF
  refine ⟨?_, ?_⟩
  · intro x1 x2 e1 e2 e3 e4 h hW QQ hQ
    subst e1 e2 e3 e4
    refine en_segs [(5, .iload_n 2, [])] (by decide +kernel) (y := (6, [some (.ref a0), some (.int x1), some (.int x2)], [.int x2], h)) rfl ?_
    refine en_if_le (by decide +kernel : u_at kl_279 6 = some (.ifCond .le 35, [41])) (fun b1 => ?_) (fun b1 => ?_)
    · replace hF := i_pos b1 hF
      exact (ih _ _ _ _ _ _ hF).2 _ _ rfl rfl rfl rfl  _ hW _ hQ
    · replace hF := i_neg b1 hF
      refine en_segs [(9, .aload_n 0, [])] (by decide +kernel) (y := (10, [some (.ref a0), some (.int x1), some (.int x2)], [.ref a0], h)) rfl ?_
      refine en_get (by decide +kernel : u_at kl_279 10 = some (.getfield 86, [12, 38])) hW ha0 (by decide) rfl ?_
      refine en_segs [(13, .iload_n 2, []), (14, .iconst 1, []), (15, .isub, [])] (by decide +kernel) (y := (16, [some (.ref a0), some (.int x1), some (.int x2)], [.int (x2 - 1), .ref (aP d 12 38 a0)], h)) rfl ?_
      obtain ⟨v2, hv2, hF⟩ := ob_some hF
      refine en_iald (by decide +kernel : u_at kl_279 16 = some (.iaload, [])) hW ha0 rfl (by decide) hv2 ?_
      refine en_segs [(17, .iload_n 1, [])] (by decide +kernel) (y := (18, [some (.ref a0), some (.int x1), some (.int x2)], [.int x1, .int v2], h)) rfl ?_
      refine en_ic_le (by decide +kernel : u_at kl_279 18 = some (.if_icmp .le 23, [41])) (fun b3 => ?_) (fun b3 => ?_)
      · replace hF := i_pos b3 hF
        exact (ih _ _ _ _ _ _ hF).2 _ _ rfl rfl rfl rfl  _ hW _ hQ
      · replace hF := i_neg b3 hF
        refine en_segs [(21, .aload_n 0, [])] (by decide +kernel) (y := (22, [some (.ref a0), some (.int x1), some (.int x2)], [.ref a0], h)) rfl ?_
        refine en_get (by decide +kernel : u_at kl_279 22 = some (.getfield 86, [12, 38])) hW ha0 (by decide) rfl ?_
        refine en_segs [(25, .iload_n 2, []), (26, .aload_n 0, [])] (by decide +kernel) (y := (27, [some (.ref a0), some (.int x1), some (.int x2)], [.ref a0, .int x2, .ref (aP d 12 38 a0)], h)) rfl ?_
        refine en_get (by decide +kernel : u_at kl_279 27 = some (.getfield 86, [12, 38])) hW ha0 (by decide) rfl ?_
        refine en_segs [(30, .iload_n 2, []), (31, .iconst 1, []), (32, .isub, [])] (by decide +kernel) (y := (33, [some (.ref a0), some (.int x1), some (.int x2)], [.int (x2 - 1), .ref (aP d 12 38 a0), .int x2, .ref (aP d 12 38 a0)], h)) rfl ?_
        obtain ⟨v4, hv4, hF⟩ := ob_some hF
        refine en_iald (by decide +kernel : u_at kl_279 33 = some (.iaload, [])) hW ha0 rfl (by decide) hv4 ?_
        obtain ⟨c12_5, hc12_5, hF⟩ := ob_some hF
        refine en_iast (by decide +kernel : u_at kl_279 34 = some (.iastore, [])) hW ha0 rfl (by decide) hc12_5 (fun h hW => ?_)
        have hW : HW (mkw c0 c1 c2 c3 c4 c5 c6 c7 c8 c9 c10 c11 c12_5 c13) d h := hW
        refine en_segs [(35, .iinc 2 (-1), []), (38, .goto (-33), [5])] (by decide +kernel) (y := (5, [some (.ref a0), some (.int x1), some (.int (x2 + (-1)))], [], h)) rfl ?_
        exact (ih _ _ _ _ _ _ hF).1 _ _ rfl rfl rfl rfl  _ hW _ hQ
  · intro x1 x2 e1 e2 e3 e4 h hW QQ hQ
    subst e1 e2 e3 e4
    refine en_segs [(41, .aload_n 0, [])] (by decide +kernel) (y := (42, [some (.ref a0), some (.int x1), some (.int x2)], [.ref a0], h)) rfl ?_
    refine en_get (by decide +kernel : u_at kl_279 42 = some (.getfield 86, [12, 38])) hW ha0 (by decide) rfl ?_
    refine en_segs [(45, .iload_n 2, []), (46, .iload_n 1, [])] (by decide +kernel) (y := (47, [some (.ref a0), some (.int x1), some (.int x2)], [.int x1, .int x2, .ref (aP d 12 38 a0)], h)) rfl ?_
    obtain ⟨c12_6, hc12_6, hF⟩ := ob_some hF
    refine en_iast (by decide +kernel : u_at kl_279 47 = some (.iastore, [])) hW ha0 rfl (by decide) hc12_6 (fun h hW => ?_)
    have hW : HW (mkw c0 c1 c2 c3 c4 c5 c6 c7 c8 c9 c10 c11 c12_6 c13) d h := hW
    refine en_segs [(48, .aload_n 0, []), (49, .dup, [])] (by decide +kernel) (y := (50, [some (.ref a0), some (.int x1), some (.int x2)], [.ref a0, .ref a0], h)) rfl ?_
    refine en_get (by decide +kernel : u_at kl_279 50 = some (.getfield 496, [12, 39])) hW ha0 (by decide) rfl ?_
    refine en_segs [(53, .iconst 1, []), (54, .iadd, [])] (by decide +kernel) (y := (55, [some (.ref a0), some (.int x1), some (.int x2)], [.int ((cI c12_6 39 a0) + 1), .ref a0], h)) rfl ?_
    obtain ⟨c12_7, hc12_7, hF⟩ := ob_some hF
    refine en_putI (by decide +kernel : u_at kl_279 55 = some (.putfield 496, [12, 39, 0])) hW ha0 rfl (by decide) rfl (fun h hW => ?_)
    have hW : HW (mkw c0 c1 c2 c3 c4 c5 c6 c7 c8 c9 c10 c11 c12_7 c13) d h := by rw [← Option.some.inj hc12_7]; exact hW
    obtain rfl := Option.some.inj hF
    exact en_ret (by decide +kernel : u_at kl_279 58 = some (.return_, [])) rfl (hQ _ hW)
def F_279 (c12 : Cl) (a0 : Nat) (p1 : Int32) : Option Cl :=
  G_279 a0 0 [p1, cI c12 39 a0] [] [] c12
set_option maxRecDepth 100000 in
set_option maxHeartbeats 4000000 in
/-- HeadCountsModel.putsLead -/
theorem e_279 {D : Nat} {c0 c1 c2 c3 c4 c5 c6 c7 c8 c9 c10 c11 c12 c13 : Cl} {d : Ad} {h : UH} {a0 : Nat} {p1 : Int32} {r : Cl} (hD : 1 ≤ D) (hW : HW (mkw c0 c1 c2 c3 c4 c5 c6 c7 c8 c9 c10 c11 c12 c13) d h) (ha0 : aK d a0 = (0, 12, 0)) (hF : F_279 c12 a0 p1 = some r) : ∃ q, EX D 279 [.ref a0, .int p1] h q ∧ q.1 = none ∧ HW (mkw c0 c1 c2 c3 c4 c5 c6 c7 c8 c9 c10 c11 r c13) d q.2 := by
  obtain ⟨D, rfl⟩ : ∃ E, D = E + 1 := ⟨D - 1, by omega⟩
  unfold F_279 at hF
  refine ex_in (kl := kl_279) (nL := 3) rfl (by decide +kernel) (Nat.le_of_ble_eq_true rfl) ?_
  obtain ⟨QQ, hQQ⟩ : ∃ QQ : UR → Prop, QQ = (fun q : UR => q.1 = none ∧ HW (mkw c0 c1 c2 c3 c4 c5 c6 c7 c8 c9 c10 c11 r c13) d q.2) := ⟨_, rfl⟩
  rw [← hQQ]
  have hQ : ∀ h' : UH, HW (mkw c0 c1 c2 c3 c4 c5 c6 c7 c8 c9 c10 c11 r c13) d h' → QQ (none, h') := fun h' p => by rw [hQQ]; exact ⟨rfl, p⟩
  clear hQQ
  show Ends (EX D) (u_at kl_279) (0, [some (.ref a0), some (.int p1), none], [], h) QQ
  refine en_segs [(0, .aload_n 0, [])] (by decide +kernel) (y := (1, [some (.ref a0), some (.int p1), none], [.ref a0], h)) rfl ?_
  refine en_get (by decide +kernel : u_at kl_279 1 = some (.getfield 496, [12, 39])) hW ha0 (by decide) rfl ?_
  refine en_segs [(4, .istore_n 2, [])] (by decide +kernel) (y := (5, [some (.ref a0), some (.int p1), some (.int (cI c12 39 a0))], [], h)) rfl ?_
  exact (g_279 (D := D) hD (d := d) ha0 _ _ _ _ _ _ hF).1 _ _ rfl rfl rfl rfl  _ hW _ hQ
def G_280 (a0 : Nat) (lab : Nat) (xs : List Int32) (ys : List Int64) (zs : List Nat) (c12 : Cl) : Option Cl := match lab, xs, ys, zs with
  | 0, [x1, x2], [], [] =>
    ald (cA c12 20 a0) 221 2 >>= fun v3 =>
    if v3 ≤ x2 then
    some c12
    else
    G_280 a0 1 [x1, x2, 0] [] [] c12
  | 1, [x1, x2, x3], [], [] =>
    ald (cA c12 20 a0) 221 0 >>= fun v5 =>
    if v5 ≤ x3 then
    G_280 a0 5 [x1, x2] [] [] c12
    else
    F_224 c12 a0 x2 >>= fun r7 =>
    if r7 = 0 then
    G_280 a0 5 [x1, x2] [] [] c12
    else
    ald (cA c12 32 a0) 6 x2 >>= fun v9 =>
    F_232 c12 a0 v9 >>= fun r10 =>
    F_171 r10 x3 >>= fun r11 =>
    if r11 = 0 then
    G_280 a0 1 [x1, x2, x3 + 1] [] [] c12
    else
    ast c12 24 a0 6 x2 x3 >>= fun c12_13 =>
    ald (cA c12_13 25 a0) 6 x2 >>= fun v14 =>
    ald (cA c12_13 32 a0) 6 x2 >>= fun v15 =>
    F_276 c12_13 a0 >>= fun r16 =>
    ((if r16 = 0 then
    some c12_13
    else
    F_279 c12_13 a0 (x1 + (v14 * (x3 - v15))) >>= fun r20 =>
    some r20) : Option (Cl)) >>= fun (t17 : Cl) =>
    G_280 a0 2 [x1, x2, x3, x1 + (v14 * (x3 - v15)), x2 + 1] [] [] t17
  | 2, [x1, x2, x3, x4, x5], [], [] =>
    ald (cA c12 20 a0) 221 2 >>= fun v23 =>
    if v23 ≤ x5 then
    G_280 a0 1 [x1, x2, x3 + 1] [] [] c12
    else
    G_280 a0 3 [x1, x2, x3, x4, x5, 0] [] [] c12
  | 3, [x1, x2, x3, x4, x5, x6], [], [] =>
    ald (cA c12 20 a0) 221 0 >>= fun v25 =>
    if v25 ≤ x6 then
    G_280 a0 4 [x1, x2, x3, x4, x5] [] [] c12
    else
    F_224 c12 a0 x5 >>= fun r27 =>
    if r27 = 0 then
    G_280 a0 4 [x1, x2, x3, x4, x5] [] [] c12
    else
    ald (cA c12 32 a0) 6 x5 >>= fun v29 =>
    F_232 c12 a0 v29 >>= fun r30 =>
    F_171 r30 x6 >>= fun r31 =>
    ((if r31 = 0 then
    some c12
    else
    ast c12 24 a0 6 x5 x6 >>= fun c12_35 =>
    F_276 c12_35 a0 >>= fun r36 =>
    if r36 = 0 then
    some c12_35
    else
    ald (cA c12_35 25 a0) 6 x5 >>= fun v38 =>
    ald (cA c12_35 32 a0) 6 x5 >>= fun v39 =>
    F_279 c12_35 a0 (x4 + (v38 * (x6 - v39))) >>= fun r40 =>
    some r40) : Option (Cl)) >>= fun (t32 : Cl) =>
    G_280 a0 3 [x1, x2, x3, x4, x5, x6 + 1] [] [] t32
  | 4, [x1, x2, x3, x4, x5], [], [] =>
    ald (cA c12 32 a0) 6 x5 >>= fun v41 =>
    ast c12 24 a0 6 x5 v41 >>= fun c12_42 =>
    G_280 a0 2 [x1, x2, x3, x4, x5 + 1] [] [] c12_42
  | 5, [x1, x2], [], [] =>
    ald (cA c12 32 a0) 6 x2 >>= fun v21 =>
    ast c12 24 a0 6 x2 v21 >>= fun c12_22 =>
    G_280 a0 0 [x1, x2 + 1] [] [] c12_22
  | _, _, _, _ => none
partial_fixpoint
set_option maxRecDepth 100000 in
set_option maxHeartbeats 4000000 in
theorem g_280 {D : Nat} (hD : 5 ≤ D + 1) {c0 c1 c2 c3 c4 c5 c6 c7 c8 c9 c10 c11 c13 : Cl} {d : Ad} {a0 : Nat} (ha0 : aK d a0 = (0, 12, 0)) : ∀ (lab : Nat) (xs : List Int32) (ys : List Int64) (zs : List Nat) (c12 : Cl) (r : Cl), G_280 a0 lab xs ys zs c12 = some r →
    (∀ (x1 : Int32) (x2 : Int32), lab = 0 → xs = [x1, x2] → ys = [] → zs = [] → ∀ h : UH, HW (mkw c0 c1 c2 c3 c4 c5 c6 c7 c8 c9 c10 c11 c12 c13) d h → ∀ QQ : UR → Prop, (∀ h' : UH, HW (mkw c0 c1 c2 c3 c4 c5 c6 c7 c8 c9 c10 c11 r c13) d h' → QQ (none, h')) → Ends (EX D) (u_at kl_280) (12, [some (.ref a0), some (.int x1), some (.int x2), none, none, none, none], [], h) QQ) ∧
    (∀ (x1 : Int32) (x2 : Int32) (x3 : Int32), lab = 1 → xs = [x1, x2, x3] → ys = [] → zs = [] → ∀ h : UH, HW (mkw c0 c1 c2 c3 c4 c5 c6 c7 c8 c9 c10 c11 c12 c13) d h → ∀ QQ : UR → Prop, (∀ h' : UH, HW (mkw c0 c1 c2 c3 c4 c5 c6 c7 c8 c9 c10 c11 r c13) d h' → QQ (none, h')) → Ends (EX D) (u_at kl_280) (24, [some (.ref a0), some (.int x1), some (.int x2), some (.int x3), none, none, none], [], h) QQ) ∧
    (∀ (x1 : Int32) (x2 : Int32) (x3 : Int32) (x4 : Int32) (x5 : Int32), lab = 2 → xs = [x1, x2, x3, x4, x5] → ys = [] → zs = [] → ∀ h : UH, HW (mkw c0 c1 c2 c3 c4 c5 c6 c7 c8 c9 c10 c11 c12 c13) d h → ∀ QQ : UR → Prop, (∀ h' : UH, HW (mkw c0 c1 c2 c3 c4 c5 c6 c7 c8 c9 c10 c11 r c13) d h' → QQ (none, h')) → Ends (EX D) (u_at kl_280) (106, [some (.ref a0), some (.int x1), some (.int x2), some (.int x3), some (.int x4), some (.int x5), none], [], h) QQ) ∧
    (∀ (x1 : Int32) (x2 : Int32) (x3 : Int32) (x4 : Int32) (x5 : Int32) (x6 : Int32), lab = 3 → xs = [x1, x2, x3, x4, x5, x6] → ys = [] → zs = [] → ∀ h : UH, HW (mkw c0 c1 c2 c3 c4 c5 c6 c7 c8 c9 c10 c11 c12 c13) d h → ∀ QQ : UR → Prop, (∀ h' : UH, HW (mkw c0 c1 c2 c3 c4 c5 c6 c7 c8 c9 c10 c11 r c13) d h' → QQ (none, h')) → Ends (EX D) (u_at kl_280) (120, [some (.ref a0), some (.int x1), some (.int x2), some (.int x3), some (.int x4), some (.int x5), some (.int x6)], [], h) QQ) ∧
    (∀ (x1 : Int32) (x2 : Int32) (x3 : Int32) (x4 : Int32) (x5 : Int32), lab = 4 → xs = [x1, x2, x3, x4, x5] → ys = [] → zs = [] → ∀ h : UH, HW (mkw c0 c1 c2 c3 c4 c5 c6 c7 c8 c9 c10 c11 c12 c13) d h → ∀ QQ : UR → Prop, (∀ h' : UH, HW (mkw c0 c1 c2 c3 c4 c5 c6 c7 c8 c9 c10 c11 r c13) d h' → QQ (none, h')) → Ends (EX D) (u_at kl_280) (209, [some (.ref a0), some (.int x1), some (.int x2), some (.int x3), some (.int x4), some (.int x5), none], [], h) QQ) ∧
    (∀ (x1 : Int32) (x2 : Int32), lab = 5 → xs = [x1, x2] → ys = [] → zs = [] → ∀ h : UH, HW (mkw c0 c1 c2 c3 c4 c5 c6 c7 c8 c9 c10 c11 c12 c13) d h → ∀ QQ : UR → Prop, (∀ h' : UH, HW (mkw c0 c1 c2 c3 c4 c5 c6 c7 c8 c9 c10 c11 r c13) d h' → QQ (none, h')) → Ends (EX D) (u_at kl_280) (235, [some (.ref a0), some (.int x1), some (.int x2), none, none, none, none], [], h) QQ) := by
  refine G_280.partial_correctness _ (motive := fun lab xs ys zs c12 r =>
    (∀ (x1 : Int32) (x2 : Int32), lab = 0 → xs = [x1, x2] → ys = [] → zs = [] → ∀ h : UH, HW (mkw c0 c1 c2 c3 c4 c5 c6 c7 c8 c9 c10 c11 c12 c13) d h → ∀ QQ : UR → Prop, (∀ h' : UH, HW (mkw c0 c1 c2 c3 c4 c5 c6 c7 c8 c9 c10 c11 r c13) d h' → QQ (none, h')) → Ends (EX D) (u_at kl_280) (12, [some (.ref a0), some (.int x1), some (.int x2), none, none, none, none], [], h) QQ) ∧
    (∀ (x1 : Int32) (x2 : Int32) (x3 : Int32), lab = 1 → xs = [x1, x2, x3] → ys = [] → zs = [] → ∀ h : UH, HW (mkw c0 c1 c2 c3 c4 c5 c6 c7 c8 c9 c10 c11 c12 c13) d h → ∀ QQ : UR → Prop, (∀ h' : UH, HW (mkw c0 c1 c2 c3 c4 c5 c6 c7 c8 c9 c10 c11 r c13) d h' → QQ (none, h')) → Ends (EX D) (u_at kl_280) (24, [some (.ref a0), some (.int x1), some (.int x2), some (.int x3), none, none, none], [], h) QQ) ∧
    (∀ (x1 : Int32) (x2 : Int32) (x3 : Int32) (x4 : Int32) (x5 : Int32), lab = 2 → xs = [x1, x2, x3, x4, x5] → ys = [] → zs = [] → ∀ h : UH, HW (mkw c0 c1 c2 c3 c4 c5 c6 c7 c8 c9 c10 c11 c12 c13) d h → ∀ QQ : UR → Prop, (∀ h' : UH, HW (mkw c0 c1 c2 c3 c4 c5 c6 c7 c8 c9 c10 c11 r c13) d h' → QQ (none, h')) → Ends (EX D) (u_at kl_280) (106, [some (.ref a0), some (.int x1), some (.int x2), some (.int x3), some (.int x4), some (.int x5), none], [], h) QQ) ∧
    (∀ (x1 : Int32) (x2 : Int32) (x3 : Int32) (x4 : Int32) (x5 : Int32) (x6 : Int32), lab = 3 → xs = [x1, x2, x3, x4, x5, x6] → ys = [] → zs = [] → ∀ h : UH, HW (mkw c0 c1 c2 c3 c4 c5 c6 c7 c8 c9 c10 c11 c12 c13) d h → ∀ QQ : UR → Prop, (∀ h' : UH, HW (mkw c0 c1 c2 c3 c4 c5 c6 c7 c8 c9 c10 c11 r c13) d h' → QQ (none, h')) → Ends (EX D) (u_at kl_280) (120, [some (.ref a0), some (.int x1), some (.int x2), some (.int x3), some (.int x4), some (.int x5), some (.int x6)], [], h) QQ) ∧
    (∀ (x1 : Int32) (x2 : Int32) (x3 : Int32) (x4 : Int32) (x5 : Int32), lab = 4 → xs = [x1, x2, x3, x4, x5] → ys = [] → zs = [] → ∀ h : UH, HW (mkw c0 c1 c2 c3 c4 c5 c6 c7 c8 c9 c10 c11 c12 c13) d h → ∀ QQ : UR → Prop, (∀ h' : UH, HW (mkw c0 c1 c2 c3 c4 c5 c6 c7 c8 c9 c10 c11 r c13) d h' → QQ (none, h')) → Ends (EX D) (u_at kl_280) (209, [some (.ref a0), some (.int x1), some (.int x2), some (.int x3), some (.int x4), some (.int x5), none], [], h) QQ) ∧
    (∀ (x1 : Int32) (x2 : Int32), lab = 5 → xs = [x1, x2] → ys = [] → zs = [] → ∀ h : UH, HW (mkw c0 c1 c2 c3 c4 c5 c6 c7 c8 c9 c10 c11 c12 c13) d h → ∀ QQ : UR → Prop, (∀ h' : UH, HW (mkw c0 c1 c2 c3 c4 c5 c6 c7 c8 c9 c10 c11 r c13) d h' → QQ (none, h')) → Ends (EX D) (u_at kl_280) (235, [some (.ref a0), some (.int x1), some (.int x2), none, none, none, none], [], h) QQ)) ?_
  intro G ih lab xs ys zs c12 r hF
  refine ⟨?_, ?_, ?_, ?_, ?_, ?_⟩
  · intro x1 x2 e1 e2 e3 e4 h hW QQ hQ
    subst e1 e2 e3 e4
    refine en_segs [(12, .iload_n 2, []), (13, .aload_n 0, [])] (by decide +kernel) (y := (14, [some (.ref a0), some (.int x1), some (.int x2), none, none, none, none], [.ref a0, .int x2], h)) rfl ?_
    refine en_get (by decide +kernel : u_at kl_280 14 = some (.getfield 39, [12, 20])) hW ha0 (by decide) rfl ?_
    refine en_segs [(17, .iconst 2, [])] (by decide +kernel) (y := (18, [some (.ref a0), some (.int x1), some (.int x2), none, none, none, none], [.int 2, .ref (aP d 12 20 a0), .int x2], h)) rfl ?_
    obtain ⟨v3, hv3, hF⟩ := ob_some hF
    refine en_iald (by decide +kernel : u_at kl_280 18 = some (.iaload, [])) hW ha0 rfl (by decide) hv3 ?_
    refine en_ic_ge (by decide +kernel : u_at kl_280 19 = some (.if_icmp .ge 234, [253])) (fun b4 => ?_) (fun b4 => ?_)
    · replace hF := i_pos b4 hF
      obtain rfl := Option.some.inj hF
      exact en_ret (by decide +kernel : u_at kl_280 253 = some (.return_, [])) rfl (hQ _ hW)
    · replace hF := i_neg b4 hF
      refine en_segs [(22, .iconst 0, []), (23, .istore_n 3, [])] (by decide +kernel) (y := (24, [some (.ref a0), some (.int x1), some (.int x2), some (.int 0), none, none, none], [], h)) rfl ?_
      exact (ih _ _ _ _ _ _ hF).2.1 _ _ _ rfl rfl rfl rfl  _ hW _ hQ
  · intro x1 x2 x3 e1 e2 e3 e4 h hW QQ hQ
    subst e1 e2 e3 e4
    refine en_segs [(24, .iload_n 3, []), (25, .aload_n 0, [])] (by decide +kernel) (y := (26, [some (.ref a0), some (.int x1), some (.int x2), some (.int x3), none, none, none], [.ref a0, .int x3], h)) rfl ?_
    refine en_get (by decide +kernel : u_at kl_280 26 = some (.getfield 39, [12, 20])) hW ha0 (by decide) rfl ?_
    refine en_segs [(29, .iconst 0, [])] (by decide +kernel) (y := (30, [some (.ref a0), some (.int x1), some (.int x2), some (.int x3), none, none, none], [.int 0, .ref (aP d 12 20 a0), .int x3], h)) rfl ?_
    obtain ⟨v5, hv5, hF⟩ := ob_some hF
    refine en_iald (by decide +kernel : u_at kl_280 30 = some (.iaload, [])) hW ha0 rfl (by decide) hv5 ?_
    refine en_ic_ge (by decide +kernel : u_at kl_280 31 = some (.if_icmp .ge 204, [235])) (fun b6 => ?_) (fun b6 => ?_)
    · replace hF := i_pos b6 hF
      refine en_fg (fg_k (fg_k (fg_k (fg_d (fg_k (fg_k (fg_k fg_0))))))) ?_
      exact (ih _ _ _ _ _ _ hF).2.2.2.2.2 _ _ rfl rfl rfl rfl  _ hW _ hQ
    · replace hF := i_neg b6 hF
      refine en_segs [(34, .aload_n 0, []), (35, .iload_n 2, [])] (by decide +kernel) (y := (36, [some (.ref a0), some (.int x1), some (.int x2), some (.int x3), none, none, none], [.int x2, .ref a0], h)) rfl ?_
      obtain ⟨r7, hr7, hF⟩ := ob_some hF
      refine en_vi (r := []) (by decide +kernel : u_at kl_280 36 = some (.invokevirtual 346, [224, 1, 12])) hW ha0 rfl rfl (Nat.le_of_ble_eq_true rfl) (e_224 (D := D) (by omega) hW ha0 hr7) (fun h' q => ?_)
      subst q
      refine en_if_eq (by decide +kernel : u_at kl_280 39 = some (.ifCond .eq 196, [235])) (fun b8 => ?_) (fun b8 => ?_)
      · replace hF := i_pos b8 hF
        refine en_fg (fg_k (fg_k (fg_k (fg_d (fg_k (fg_k (fg_k fg_0))))))) ?_
        exact (ih _ _ _ _ _ _ hF).2.2.2.2.2 _ _ rfl rfl rfl rfl  _ hW _ hQ
      · replace hF := i_neg b8 hF
        refine en_segs [(42, .aload_n 0, []), (43, .aload_n 0, [])] (by decide +kernel) (y := (44, [some (.ref a0), some (.int x1), some (.int x2), some (.int x3), none, none, none], [.ref a0, .ref a0], h)) rfl ?_
        refine en_get (by decide +kernel : u_at kl_280 44 = some (.getfield 67, [12, 32])) hW ha0 (by decide) rfl ?_
        refine en_segs [(47, .iload_n 2, [])] (by decide +kernel) (y := (48, [some (.ref a0), some (.int x1), some (.int x2), some (.int x3), none, none, none], [.int x2, .ref (aP d 12 32 a0), .ref a0], h)) rfl ?_
        obtain ⟨v9, hv9, hF⟩ := ob_some hF
        refine en_iald (by decide +kernel : u_at kl_280 48 = some (.iaload, [])) hW ha0 rfl (by decide) hv9 ?_
        obtain ⟨r10, hr10, hF⟩ := ob_some hF
        refine en_vi (r := []) (by decide +kernel : u_at kl_280 49 = some (.invokevirtual 378, [232, 1, 12])) hW ha0 rfl rfl (Nat.le_of_ble_eq_true rfl) (e_232 (D := D) (by omega) hW ha0 hr10) (fun h' q => ?_)
        subst q
        refine en_segs [(52, .iload_n 3, [])] (by decide +kernel) (y := (53, [some (.ref a0), some (.int x1), some (.int x2), some (.int x3), none, none, none], [.int x3, .int r10], h)) rfl ?_
        obtain ⟨r11, hr11, hF⟩ := ob_some hF
        refine en_si (r := []) (by decide +kernel : u_at kl_280 53 = some (.invokestatic 361, [171, 2])) rfl rfl (Nat.le_of_ble_eq_true rfl) (e_171 (D := D) (by omega) hW hr11) (fun h' q => ?_)
        subst q
        refine en_if_ne (by decide +kernel : u_at kl_280 56 = some (.ifCond .ne 6, [62])) (fun b12 => ?_) (fun b12 => ?_)
        · replace hF := i_pos b12 hF
          refine en_segs [(59, .goto 170, [229]), (229, .iinc 3 1, []), (232, .goto (-208), [24])] (by decide +kernel) (y := (24, [some (.ref a0), some (.int x1), some (.int x2), some (.int (x3 + 1)), none, none, none], [], h)) rfl ?_
          exact (ih _ _ _ _ _ _ hF).2.1 _ _ _ rfl rfl rfl rfl  _ hW _ hQ
        · replace hF := i_neg b12 hF
          refine en_segs [(62, .aload_n 0, [])] (by decide +kernel) (y := (63, [some (.ref a0), some (.int x1), some (.int x2), some (.int x3), none, none, none], [.ref a0], h)) rfl ?_
          refine en_get (by decide +kernel : u_at kl_280 63 = some (.getfield 45, [12, 24])) hW ha0 (by decide) rfl ?_
          refine en_segs [(66, .iload_n 2, []), (67, .iload_n 3, [])] (by decide +kernel) (y := (68, [some (.ref a0), some (.int x1), some (.int x2), some (.int x3), none, none, none], [.int x3, .int x2, .ref (aP d 12 24 a0)], h)) rfl ?_
          obtain ⟨c12_13, hc12_13, hF⟩ := ob_some hF
          refine en_iast (by decide +kernel : u_at kl_280 68 = some (.iastore, [])) hW ha0 rfl (by decide) hc12_13 (fun h hW => ?_)
          have hW : HW (mkw c0 c1 c2 c3 c4 c5 c6 c7 c8 c9 c10 c11 c12_13 c13) d h := hW
          refine en_segs [(69, .iload_n 1, []), (70, .aload_n 0, [])] (by decide +kernel) (y := (71, [some (.ref a0), some (.int x1), some (.int x2), some (.int x3), none, none, none], [.ref a0, .int x1], h)) rfl ?_
          refine en_get (by decide +kernel : u_at kl_280 71 = some (.getfield 48, [12, 25])) hW ha0 (by decide) rfl ?_
          refine en_segs [(74, .iload_n 2, [])] (by decide +kernel) (y := (75, [some (.ref a0), some (.int x1), some (.int x2), some (.int x3), none, none, none], [.int x2, .ref (aP d 12 25 a0), .int x1], h)) rfl ?_
          obtain ⟨v14, hv14, hF⟩ := ob_some hF
          refine en_iald (by decide +kernel : u_at kl_280 75 = some (.iaload, [])) hW ha0 rfl (by decide) hv14 ?_
          refine en_segs [(76, .iload_n 3, []), (77, .aload_n 0, [])] (by decide +kernel) (y := (78, [some (.ref a0), some (.int x1), some (.int x2), some (.int x3), none, none, none], [.ref a0, .int x3, .int v14, .int x1], h)) rfl ?_
          refine en_get (by decide +kernel : u_at kl_280 78 = some (.getfield 67, [12, 32])) hW ha0 (by decide) rfl ?_
          refine en_segs [(81, .iload_n 2, [])] (by decide +kernel) (y := (82, [some (.ref a0), some (.int x1), some (.int x2), some (.int x3), none, none, none], [.int x2, .ref (aP d 12 32 a0), .int x3, .int v14, .int x1], h)) rfl ?_
          obtain ⟨v15, hv15, hF⟩ := ob_some hF
          refine en_iald (by decide +kernel : u_at kl_280 82 = some (.iaload, [])) hW ha0 rfl (by decide) hv15 ?_
          refine en_segs [(83, .isub, []), (84, .imul, []), (85, .iadd, []), (86, .istore 4, []), (88, .aload_n 0, [])] (by decide +kernel) (y := (89, [some (.ref a0), some (.int x1), some (.int x2), some (.int x3), some (.int (x1 + (v14 * (x3 - v15)))), none, none], [.ref a0], h)) rfl ?_
          obtain ⟨r16, hr16, hF⟩ := ob_some hF
          refine en_vi (r := []) (by decide +kernel : u_at kl_280 89 = some (.invokevirtual 493, [276, 0, 12])) hW ha0 rfl rfl (Nat.le_of_ble_eq_true rfl) (e_276 (D := D) (by omega) hW ha0 hr16) (fun h' q => ?_)
          subst q
          obtain ⟨t17, hX, hK⟩ := ob_some hF
          have j18 : ∀ h : UH, HW (mkw c0 c1 c2 c3 c4 c5 c6 c7 c8 c9 c10 c11 t17 c13) d h → Ends (EX D) (u_at kl_280) (101, [some (.ref a0), some (.int x1), some (.int x2), some (.int x3), some (.int (x1 + (v14 * (x3 - v15)))), none, none], [], h) QQ := by
            intro h hW
            have hF := hK
            refine en_segs [(101, .iload_n 2, []), (102, .iconst 1, []), (103, .iadd, []), (104, .istore 5, [])] (by decide +kernel) (y := (106, [some (.ref a0), some (.int x1), some (.int x2), some (.int x3), some (.int (x1 + (v14 * (x3 - v15)))), some (.int (x2 + 1)), none], [], h)) rfl ?_
            exact (ih _ _ _ _ _ _ hF).2.2.1 _ _ _ _ _ rfl rfl rfl rfl  _ hW _ hQ
          have hF := hX
          refine en_if_eq (by decide +kernel : u_at kl_280 92 = some (.ifCond .eq 9, [101])) (fun b19 => ?_) (fun b19 => ?_)
          · replace hF := i_pos b19 hF
            obtain rfl := Option.some.inj hF
            exact j18 _ hW
          · replace hF := i_neg b19 hF
            refine en_segs [(95, .aload_n 0, []), (96, .iload 4, [])] (by decide +kernel) (y := (98, [some (.ref a0), some (.int x1), some (.int x2), some (.int x3), some (.int (x1 + (v14 * (x3 - v15)))), none, none], [.int (x1 + (v14 * (x3 - v15))), .ref a0], h)) rfl ?_
            obtain ⟨r20, hr20, hF⟩ := ob_some hF
            refine en_vv (r := []) (by decide +kernel : u_at kl_280 98 = some (.invokevirtual 499, [279, 1, 12])) hW ha0 rfl rfl (Nat.le_of_ble_eq_true rfl) (e_279 (D := D) (by omega) hW ha0 hr20) (fun h hW => ?_)
            have hW : HW (mkw c0 c1 c2 c3 c4 c5 c6 c7 c8 c9 c10 c11 r20 c13) d h := hW
            obtain rfl := Option.some.inj hF
            exact j18 _ hW
  · intro x1 x2 x3 x4 x5 e1 e2 e3 e4 h hW QQ hQ
    subst e1 e2 e3 e4
    refine en_segs [(106, .iload 5, []), (108, .aload_n 0, [])] (by decide +kernel) (y := (109, [some (.ref a0), some (.int x1), some (.int x2), some (.int x3), some (.int x4), some (.int x5), none], [.ref a0, .int x5], h)) rfl ?_
    refine en_get (by decide +kernel : u_at kl_280 109 = some (.getfield 39, [12, 20])) hW ha0 (by decide) rfl ?_
    refine en_segs [(112, .iconst 2, [])] (by decide +kernel) (y := (113, [some (.ref a0), some (.int x1), some (.int x2), some (.int x3), some (.int x4), some (.int x5), none], [.int 2, .ref (aP d 12 20 a0), .int x5], h)) rfl ?_
    obtain ⟨v23, hv23, hF⟩ := ob_some hF
    refine en_iald (by decide +kernel : u_at kl_280 113 = some (.iaload, [])) hW ha0 rfl (by decide) hv23 ?_
    refine en_ic_ge (by decide +kernel : u_at kl_280 114 = some (.if_icmp .ge 115, [229])) (fun b24 => ?_) (fun b24 => ?_)
    · replace hF := i_pos b24 hF
      refine en_segs [(229, .iinc 3 1, []), (232, .goto (-208), [24])] (by decide +kernel) (y := (24, [some (.ref a0), some (.int x1), some (.int x2), some (.int (x3 + 1)), some (.int x4), some (.int x5), none], [], h)) rfl ?_
      refine en_fg (fg_k (fg_k (fg_k (fg_k (fg_d (fg_d (fg_k fg_0))))))) ?_
      exact (ih _ _ _ _ _ _ hF).2.1 _ _ _ rfl rfl rfl rfl  _ hW _ hQ
    · replace hF := i_neg b24 hF
      refine en_segs [(117, .iconst 0, []), (118, .istore 6, [])] (by decide +kernel) (y := (120, [some (.ref a0), some (.int x1), some (.int x2), some (.int x3), some (.int x4), some (.int x5), some (.int 0)], [], h)) rfl ?_
      exact (ih _ _ _ _ _ _ hF).2.2.2.1 _ _ _ _ _ _ rfl rfl rfl rfl  _ hW _ hQ
  · intro x1 x2 x3 x4 x5 x6 e1 e2 e3 e4 h hW QQ hQ
    subst e1 e2 e3 e4
    refine en_segs [(120, .iload 6, []), (122, .aload_n 0, [])] (by decide +kernel) (y := (123, [some (.ref a0), some (.int x1), some (.int x2), some (.int x3), some (.int x4), some (.int x5), some (.int x6)], [.ref a0, .int x6], h)) rfl ?_
    refine en_get (by decide +kernel : u_at kl_280 123 = some (.getfield 39, [12, 20])) hW ha0 (by decide) rfl ?_
    refine en_segs [(126, .iconst 0, [])] (by decide +kernel) (y := (127, [some (.ref a0), some (.int x1), some (.int x2), some (.int x3), some (.int x4), some (.int x5), some (.int x6)], [.int 0, .ref (aP d 12 20 a0), .int x6], h)) rfl ?_
    obtain ⟨v25, hv25, hF⟩ := ob_some hF
    refine en_iald (by decide +kernel : u_at kl_280 127 = some (.iaload, [])) hW ha0 rfl (by decide) hv25 ?_
    refine en_ic_ge (by decide +kernel : u_at kl_280 128 = some (.if_icmp .ge 81, [209])) (fun b26 => ?_) (fun b26 => ?_)
    · replace hF := i_pos b26 hF
      refine en_fg (fg_k (fg_k (fg_k (fg_k (fg_k (fg_k (fg_d fg_0))))))) ?_
      exact (ih _ _ _ _ _ _ hF).2.2.2.2.1 _ _ _ _ _ rfl rfl rfl rfl  _ hW _ hQ
    · replace hF := i_neg b26 hF
      refine en_segs [(131, .aload_n 0, []), (132, .iload 5, [])] (by decide +kernel) (y := (134, [some (.ref a0), some (.int x1), some (.int x2), some (.int x3), some (.int x4), some (.int x5), some (.int x6)], [.int x5, .ref a0], h)) rfl ?_
      obtain ⟨r27, hr27, hF⟩ := ob_some hF
      refine en_vi (r := []) (by decide +kernel : u_at kl_280 134 = some (.invokevirtual 346, [224, 1, 12])) hW ha0 rfl rfl (Nat.le_of_ble_eq_true rfl) (e_224 (D := D) (by omega) hW ha0 hr27) (fun h' q => ?_)
      subst q
      refine en_if_eq (by decide +kernel : u_at kl_280 137 = some (.ifCond .eq 72, [209])) (fun b28 => ?_) (fun b28 => ?_)
      · replace hF := i_pos b28 hF
        refine en_fg (fg_k (fg_k (fg_k (fg_k (fg_k (fg_k (fg_d fg_0))))))) ?_
        exact (ih _ _ _ _ _ _ hF).2.2.2.2.1 _ _ _ _ _ rfl rfl rfl rfl  _ hW _ hQ
      · replace hF := i_neg b28 hF
        refine en_segs [(140, .aload_n 0, []), (141, .aload_n 0, [])] (by decide +kernel) (y := (142, [some (.ref a0), some (.int x1), some (.int x2), some (.int x3), some (.int x4), some (.int x5), some (.int x6)], [.ref a0, .ref a0], h)) rfl ?_
        refine en_get (by decide +kernel : u_at kl_280 142 = some (.getfield 67, [12, 32])) hW ha0 (by decide) rfl ?_
        refine en_segs [(145, .iload 5, [])] (by decide +kernel) (y := (147, [some (.ref a0), some (.int x1), some (.int x2), some (.int x3), some (.int x4), some (.int x5), some (.int x6)], [.int x5, .ref (aP d 12 32 a0), .ref a0], h)) rfl ?_
        obtain ⟨v29, hv29, hF⟩ := ob_some hF
        refine en_iald (by decide +kernel : u_at kl_280 147 = some (.iaload, [])) hW ha0 rfl (by decide) hv29 ?_
        obtain ⟨r30, hr30, hF⟩ := ob_some hF
        refine en_vi (r := []) (by decide +kernel : u_at kl_280 148 = some (.invokevirtual 378, [232, 1, 12])) hW ha0 rfl rfl (Nat.le_of_ble_eq_true rfl) (e_232 (D := D) (by omega) hW ha0 hr30) (fun h' q => ?_)
        subst q
        refine en_segs [(151, .iload 6, [])] (by decide +kernel) (y := (153, [some (.ref a0), some (.int x1), some (.int x2), some (.int x3), some (.int x4), some (.int x5), some (.int x6)], [.int x6, .int r30], h)) rfl ?_
        obtain ⟨r31, hr31, hF⟩ := ob_some hF
        refine en_si (r := []) (by decide +kernel : u_at kl_280 153 = some (.invokestatic 361, [171, 2])) rfl rfl (Nat.le_of_ble_eq_true rfl) (e_171 (D := D) (by omega) hW hr31) (fun h' q => ?_)
        subst q
        obtain ⟨t32, hX, hK⟩ := ob_some hF
        have j33 : ∀ h : UH, HW (mkw c0 c1 c2 c3 c4 c5 c6 c7 c8 c9 c10 c11 t32 c13) d h → Ends (EX D) (u_at kl_280) (203, [some (.ref a0), some (.int x1), some (.int x2), some (.int x3), some (.int x4), some (.int x5), some (.int x6)], [], h) QQ := by
          intro h hW
          have hF := hK
          refine en_segs [(203, .iinc 6 1, []), (206, .goto (-86), [120])] (by decide +kernel) (y := (120, [some (.ref a0), some (.int x1), some (.int x2), some (.int x3), some (.int x4), some (.int x5), some (.int (x6 + 1))], [], h)) rfl ?_
          exact (ih _ _ _ _ _ _ hF).2.2.2.1 _ _ _ _ _ _ rfl rfl rfl rfl  _ hW _ hQ
        have hF := hX
        refine en_if_ne (by decide +kernel : u_at kl_280 156 = some (.ifCond .ne 6, [162])) (fun b34 => ?_) (fun b34 => ?_)
        · replace hF := i_pos b34 hF
          refine en_segs [(159, .goto 44, [203])] (by decide +kernel) (y := (203, [some (.ref a0), some (.int x1), some (.int x2), some (.int x3), some (.int x4), some (.int x5), some (.int x6)], [], h)) rfl ?_
          obtain rfl := Option.some.inj hF
          exact j33 _ hW
        · replace hF := i_neg b34 hF
          refine en_segs [(162, .aload_n 0, [])] (by decide +kernel) (y := (163, [some (.ref a0), some (.int x1), some (.int x2), some (.int x3), some (.int x4), some (.int x5), some (.int x6)], [.ref a0], h)) rfl ?_
          refine en_get (by decide +kernel : u_at kl_280 163 = some (.getfield 45, [12, 24])) hW ha0 (by decide) rfl ?_
          refine en_segs [(166, .iload 5, []), (168, .iload 6, [])] (by decide +kernel) (y := (170, [some (.ref a0), some (.int x1), some (.int x2), some (.int x3), some (.int x4), some (.int x5), some (.int x6)], [.int x6, .int x5, .ref (aP d 12 24 a0)], h)) rfl ?_
          obtain ⟨c12_35, hc12_35, hF⟩ := ob_some hF
          refine en_iast (by decide +kernel : u_at kl_280 170 = some (.iastore, [])) hW ha0 rfl (by decide) hc12_35 (fun h hW => ?_)
          have hW : HW (mkw c0 c1 c2 c3 c4 c5 c6 c7 c8 c9 c10 c11 c12_35 c13) d h := hW
          refine en_segs [(171, .aload_n 0, [])] (by decide +kernel) (y := (172, [some (.ref a0), some (.int x1), some (.int x2), some (.int x3), some (.int x4), some (.int x5), some (.int x6)], [.ref a0], h)) rfl ?_
          obtain ⟨r36, hr36, hF⟩ := ob_some hF
          refine en_vi (r := []) (by decide +kernel : u_at kl_280 172 = some (.invokevirtual 493, [276, 0, 12])) hW ha0 rfl rfl (Nat.le_of_ble_eq_true rfl) (e_276 (D := D) (by omega) hW ha0 hr36) (fun h' q => ?_)
          subst q
          refine en_if_eq (by decide +kernel : u_at kl_280 175 = some (.ifCond .eq 28, [203])) (fun b37 => ?_) (fun b37 => ?_)
          · replace hF := i_pos b37 hF
            obtain rfl := Option.some.inj hF
            exact j33 _ hW
          · replace hF := i_neg b37 hF
            refine en_segs [(178, .aload_n 0, []), (179, .iload 4, []), (181, .aload_n 0, [])] (by decide +kernel) (y := (182, [some (.ref a0), some (.int x1), some (.int x2), some (.int x3), some (.int x4), some (.int x5), some (.int x6)], [.ref a0, .int x4, .ref a0], h)) rfl ?_
            refine en_get (by decide +kernel : u_at kl_280 182 = some (.getfield 48, [12, 25])) hW ha0 (by decide) rfl ?_
            refine en_segs [(185, .iload 5, [])] (by decide +kernel) (y := (187, [some (.ref a0), some (.int x1), some (.int x2), some (.int x3), some (.int x4), some (.int x5), some (.int x6)], [.int x5, .ref (aP d 12 25 a0), .int x4, .ref a0], h)) rfl ?_
            obtain ⟨v38, hv38, hF⟩ := ob_some hF
            refine en_iald (by decide +kernel : u_at kl_280 187 = some (.iaload, [])) hW ha0 rfl (by decide) hv38 ?_
            refine en_segs [(188, .iload 6, []), (190, .aload_n 0, [])] (by decide +kernel) (y := (191, [some (.ref a0), some (.int x1), some (.int x2), some (.int x3), some (.int x4), some (.int x5), some (.int x6)], [.ref a0, .int x6, .int v38, .int x4, .ref a0], h)) rfl ?_
            refine en_get (by decide +kernel : u_at kl_280 191 = some (.getfield 67, [12, 32])) hW ha0 (by decide) rfl ?_
            refine en_segs [(194, .iload 5, [])] (by decide +kernel) (y := (196, [some (.ref a0), some (.int x1), some (.int x2), some (.int x3), some (.int x4), some (.int x5), some (.int x6)], [.int x5, .ref (aP d 12 32 a0), .int x6, .int v38, .int x4, .ref a0], h)) rfl ?_
            obtain ⟨v39, hv39, hF⟩ := ob_some hF
            refine en_iald (by decide +kernel : u_at kl_280 196 = some (.iaload, [])) hW ha0 rfl (by decide) hv39 ?_
            refine en_segs [(197, .isub, []), (198, .imul, []), (199, .iadd, [])] (by decide +kernel) (y := (200, [some (.ref a0), some (.int x1), some (.int x2), some (.int x3), some (.int x4), some (.int x5), some (.int x6)], [.int (x4 + (v38 * (x6 - v39))), .ref a0], h)) rfl ?_
            obtain ⟨r40, hr40, hF⟩ := ob_some hF
            refine en_vv (r := []) (by decide +kernel : u_at kl_280 200 = some (.invokevirtual 499, [279, 1, 12])) hW ha0 rfl rfl (Nat.le_of_ble_eq_true rfl) (e_279 (D := D) (by omega) hW ha0 hr40) (fun h hW => ?_)
            have hW : HW (mkw c0 c1 c2 c3 c4 c5 c6 c7 c8 c9 c10 c11 r40 c13) d h := hW
            obtain rfl := Option.some.inj hF
            exact j33 _ hW
  · intro x1 x2 x3 x4 x5 e1 e2 e3 e4 h hW QQ hQ
    subst e1 e2 e3 e4
    refine en_segs [(209, .aload_n 0, [])] (by decide +kernel) (y := (210, [some (.ref a0), some (.int x1), some (.int x2), some (.int x3), some (.int x4), some (.int x5), none], [.ref a0], h)) rfl ?_
    refine en_get (by decide +kernel : u_at kl_280 210 = some (.getfield 45, [12, 24])) hW ha0 (by decide) rfl ?_
    refine en_segs [(213, .iload 5, []), (215, .aload_n 0, [])] (by decide +kernel) (y := (216, [some (.ref a0), some (.int x1), some (.int x2), some (.int x3), some (.int x4), some (.int x5), none], [.ref a0, .int x5, .ref (aP d 12 24 a0)], h)) rfl ?_
    refine en_get (by decide +kernel : u_at kl_280 216 = some (.getfield 67, [12, 32])) hW ha0 (by decide) rfl ?_
    refine en_segs [(219, .iload 5, [])] (by decide +kernel) (y := (221, [some (.ref a0), some (.int x1), some (.int x2), some (.int x3), some (.int x4), some (.int x5), none], [.int x5, .ref (aP d 12 32 a0), .int x5, .ref (aP d 12 24 a0)], h)) rfl ?_
    obtain ⟨v41, hv41, hF⟩ := ob_some hF
    refine en_iald (by decide +kernel : u_at kl_280 221 = some (.iaload, [])) hW ha0 rfl (by decide) hv41 ?_
    obtain ⟨c12_42, hc12_42, hF⟩ := ob_some hF
    refine en_iast (by decide +kernel : u_at kl_280 222 = some (.iastore, [])) hW ha0 rfl (by decide) hc12_42 (fun h hW => ?_)
    have hW : HW (mkw c0 c1 c2 c3 c4 c5 c6 c7 c8 c9 c10 c11 c12_42 c13) d h := hW
    refine en_segs [(223, .iinc 5 1, []), (226, .goto (-120), [106])] (by decide +kernel) (y := (106, [some (.ref a0), some (.int x1), some (.int x2), some (.int x3), some (.int x4), some (.int (x5 + 1)), none], [], h)) rfl ?_
    exact (ih _ _ _ _ _ _ hF).2.2.1 _ _ _ _ _ rfl rfl rfl rfl  _ hW _ hQ
  · intro x1 x2 e1 e2 e3 e4 h hW QQ hQ
    subst e1 e2 e3 e4
    refine en_segs [(235, .aload_n 0, [])] (by decide +kernel) (y := (236, [some (.ref a0), some (.int x1), some (.int x2), none, none, none, none], [.ref a0], h)) rfl ?_
    refine en_get (by decide +kernel : u_at kl_280 236 = some (.getfield 45, [12, 24])) hW ha0 (by decide) rfl ?_
    refine en_segs [(239, .iload_n 2, []), (240, .aload_n 0, [])] (by decide +kernel) (y := (241, [some (.ref a0), some (.int x1), some (.int x2), none, none, none, none], [.ref a0, .int x2, .ref (aP d 12 24 a0)], h)) rfl ?_
    refine en_get (by decide +kernel : u_at kl_280 241 = some (.getfield 67, [12, 32])) hW ha0 (by decide) rfl ?_
    refine en_segs [(244, .iload_n 2, [])] (by decide +kernel) (y := (245, [some (.ref a0), some (.int x1), some (.int x2), none, none, none, none], [.int x2, .ref (aP d 12 32 a0), .int x2, .ref (aP d 12 24 a0)], h)) rfl ?_
    obtain ⟨v21, hv21, hF⟩ := ob_some hF
    refine en_iald (by decide +kernel : u_at kl_280 245 = some (.iaload, [])) hW ha0 rfl (by decide) hv21 ?_
    obtain ⟨c12_22, hc12_22, hF⟩ := ob_some hF
    refine en_iast (by decide +kernel : u_at kl_280 246 = some (.iastore, [])) hW ha0 rfl (by decide) hc12_22 (fun h hW => ?_)
    have hW : HW (mkw c0 c1 c2 c3 c4 c5 c6 c7 c8 c9 c10 c11 c12_22 c13) d h := hW
    refine en_segs [(247, .iinc 2 1, []), (250, .goto (-238), [12])] (by decide +kernel) (y := (12, [some (.ref a0), some (.int x1), some (.int (x2 + 1)), none, none, none, none], [], h)) rfl ?_
    exact (ih _ _ _ _ _ _ hF).1 _ _ rfl rfl rfl rfl  _ hW _ hQ
def F_280 (c12 : Cl) (a0 : Nat) (p1 : Int32) : Option Cl :=
  F_275 c12 a0 p1 >>= fun r1 =>
  some (sI r1 39 a0 0) >>= fun c12_2 =>
  G_280 a0 0 [p1, 0] [] [] c12_2
set_option maxRecDepth 100000 in
set_option maxHeartbeats 4000000 in
/-- HeadCountsModel.gathersLeads -/
theorem e_280 {D : Nat} {c0 c1 c2 c3 c4 c5 c6 c7 c8 c9 c10 c11 c12 c13 : Cl} {d : Ad} {h : UH} {a0 : Nat} {p1 : Int32} {r : Cl} (hD : 5 ≤ D) (hW : HW (mkw c0 c1 c2 c3 c4 c5 c6 c7 c8 c9 c10 c11 c12 c13) d h) (ha0 : aK d a0 = (0, 12, 0)) (hF : F_280 c12 a0 p1 = some r) : ∃ q, EX D 280 [.ref a0, .int p1] h q ∧ q.1 = none ∧ HW (mkw c0 c1 c2 c3 c4 c5 c6 c7 c8 c9 c10 c11 r c13) d q.2 := by
  obtain ⟨D, rfl⟩ : ∃ E, D = E + 1 := ⟨D - 1, by omega⟩
  unfold F_280 at hF
  refine ex_in (kl := kl_280) (nL := 7) rfl (by decide +kernel) (Nat.le_of_ble_eq_true rfl) ?_
  obtain ⟨QQ, hQQ⟩ : ∃ QQ : UR → Prop, QQ = (fun q : UR => q.1 = none ∧ HW (mkw c0 c1 c2 c3 c4 c5 c6 c7 c8 c9 c10 c11 r c13) d q.2) := ⟨_, rfl⟩
  rw [← hQQ]
  have hQ : ∀ h' : UH, HW (mkw c0 c1 c2 c3 c4 c5 c6 c7 c8 c9 c10 c11 r c13) d h' → QQ (none, h') := fun h' p => by rw [hQQ]; exact ⟨rfl, p⟩
  clear hQQ
  show Ends (EX D) (u_at kl_280) (0, [some (.ref a0), some (.int p1), none, none, none, none, none], [], h) QQ
  refine en_segs [(0, .aload_n 0, []), (1, .iload_n 1, [])] (by decide +kernel) (y := (2, [some (.ref a0), some (.int p1), none, none, none, none, none], [.int p1, .ref a0], h)) rfl ?_
  obtain ⟨r1, hr1, hF⟩ := ob_some hF
  refine en_vv (r := []) (by decide +kernel : u_at kl_280 2 = some (.invokevirtual 484, [275, 1, 12])) hW ha0 rfl rfl (Nat.le_of_ble_eq_true rfl) (e_275 (D := D) (by omega) hW ha0 hr1) (fun h hW => ?_)
  have hW : HW (mkw c0 c1 c2 c3 c4 c5 c6 c7 c8 c9 c10 c11 r1 c13) d h := hW
  refine en_segs [(5, .aload_n 0, []), (6, .iconst 0, [])] (by decide +kernel) (y := (7, [some (.ref a0), some (.int p1), none, none, none, none, none], [.int 0, .ref a0], h)) rfl ?_
  obtain ⟨c12_2, hc12_2, hF⟩ := ob_some hF
  refine en_putI (by decide +kernel : u_at kl_280 7 = some (.putfield 496, [12, 39, 0])) hW ha0 rfl (by decide) rfl (fun h hW => ?_)
  have hW : HW (mkw c0 c1 c2 c3 c4 c5 c6 c7 c8 c9 c10 c11 c12_2 c13) d h := by rw [← Option.some.inj hc12_2]; exact hW
  refine en_segs [(10, .iconst 0, []), (11, .istore_n 2, [])] (by decide +kernel) (y := (12, [some (.ref a0), some (.int p1), some (.int 0), none, none, none, none], [], h)) rfl ?_
  exact (g_280 (D := D) hD (d := d) ha0 _ _ _ _ _ _ hF).1 _ _ rfl rfl rfl rfl  _ hW _ hQ
def G_281 (c12 : Cl) (a0 : Nat) (lab : Nat) (xs : List Int32) (ys : List Int64) (zs : List Nat) : Option Int32 := match lab, xs, ys, zs with
  | 0, [x1, x2, x3, x4], [], [] =>
    if 6 ≤ x4 then
    some x3
    else
    ald (cA c12 25 a0) 6 x4 >>= fun v2 =>
    idv x1 v2 >>= fun v3 =>
    irm v3 6 >>= fun v4 =>
    ald (cA c12 25 a0) 6 x4 >>= fun v5 =>
    idv x2 v5 >>= fun v6 =>
    irm v6 6 >>= fun v7 =>
    ((if v4 = v7 then
    some 0
    else
    some 1) : Option (Int32)) >>= fun (t8 : Int32) =>
    G_281 c12 a0 0 [x1, x2, x3 + t8, x4 + 1] [] []
  | _, _, _, _ => none
partial_fixpoint
set_option maxRecDepth 100000 in
set_option maxHeartbeats 4000000 in
theorem g_281 {D : Nat} (hD : 1 ≤ D + 1) {c0 c1 c2 c3 c4 c5 c6 c7 c8 c9 c10 c11 c12 c13 : Cl} {d : Ad} {a0 : Nat} (ha0 : aK d a0 = (0, 12, 0)) : ∀ (lab : Nat) (xs : List Int32) (ys : List Int64) (zs : List Nat) (r : Int32), G_281 c12 a0 lab xs ys zs = some r →
    (∀ (x1 : Int32) (x2 : Int32) (x3 : Int32) (x4 : Int32), lab = 0 → xs = [x1, x2, x3, x4] → ys = [] → zs = [] → ∀ h : UH, HW (mkw c0 c1 c2 c3 c4 c5 c6 c7 c8 c9 c10 c11 c12 c13) d h → ∀ QQ : UR → Prop, QQ (some (.int r), h) → Ends (EX D) (u_at kl_281) (5, [some (.ref a0), some (.int x1), some (.int x2), some (.int x3), some (.int x4)], [], h) QQ) := by
  refine G_281.partial_correctness _ _ (motive := fun lab xs ys zs r =>
    (∀ (x1 : Int32) (x2 : Int32) (x3 : Int32) (x4 : Int32), lab = 0 → xs = [x1, x2, x3, x4] → ys = [] → zs = [] → ∀ h : UH, HW (mkw c0 c1 c2 c3 c4 c5 c6 c7 c8 c9 c10 c11 c12 c13) d h → ∀ QQ : UR → Prop, QQ (some (.int r), h) → Ends (EX D) (u_at kl_281) (5, [some (.ref a0), some (.int x1), some (.int x2), some (.int x3), some (.int x4)], [], h) QQ)) ?_
  intro G ih lab xs ys zs r hF
  · intro x1 x2 x3 x4 e1 e2 e3 e4 h hW QQ hQ
    subst e1 e2 e3 e4
    refine en_segs [(5, .iload 4, []), (7, .bipush 6, [])] (by decide +kernel) (y := (9, [some (.ref a0), some (.int x1), some (.int x2), some (.int x3), some (.int x4)], [.int 6, .int x4], h)) rfl ?_
    refine en_ic_ge (by decide +kernel : u_at kl_281 9 = some (.if_icmp .ge 44, [53])) (fun b1 => ?_) (fun b1 => ?_)
    · replace hF := i_pos b1 hF
      refine en_segs [(53, .iload_n 3, [])] (by decide +kernel) (y := (54, [some (.ref a0), some (.int x1), some (.int x2), some (.int x3), some (.int x4)], [.int x3], h)) rfl ?_
      obtain rfl := Option.some.inj hF
      exact en_ret (by decide +kernel : u_at kl_281 54 = some (.ireturn, [0])) rfl (hQ)
    · replace hF := i_neg b1 hF
      refine en_segs [(12, .iload_n 3, []), (13, .iload_n 1, []), (14, .aload_n 0, [])] (by decide +kernel) (y := (15, [some (.ref a0), some (.int x1), some (.int x2), some (.int x3), some (.int x4)], [.ref a0, .int x1, .int x3], h)) rfl ?_
      refine en_get (by decide +kernel : u_at kl_281 15 = some (.getfield 48, [12, 25])) hW ha0 (by decide) rfl ?_
      refine en_segs [(18, .iload 4, [])] (by decide +kernel) (y := (20, [some (.ref a0), some (.int x1), some (.int x2), some (.int x3), some (.int x4)], [.int x4, .ref (aP d 12 25 a0), .int x1, .int x3], h)) rfl ?_
      obtain ⟨v2, hv2, hF⟩ := ob_some hF
      refine en_iald (by decide +kernel : u_at kl_281 20 = some (.iaload, [])) hW ha0 rfl (by decide) hv2 ?_
      obtain ⟨v3, hv3, hF⟩ := ob_some hF
      refine en_idiv (by decide +kernel : u_at kl_281 21 = some (.idiv, [])) hv3 ?_
      refine en_segs [(22, .bipush 6, [])] (by decide +kernel) (y := (24, [some (.ref a0), some (.int x1), some (.int x2), some (.int x3), some (.int x4)], [.int 6, .int v3, .int x3], h)) rfl ?_
      obtain ⟨v4, hv4, hF⟩ := ob_some hF
      refine en_irem (by decide +kernel : u_at kl_281 24 = some (.irem, [])) hv4 ?_
      refine en_segs [(25, .iload_n 2, []), (26, .aload_n 0, [])] (by decide +kernel) (y := (27, [some (.ref a0), some (.int x1), some (.int x2), some (.int x3), some (.int x4)], [.ref a0, .int x2, .int v4, .int x3], h)) rfl ?_
      refine en_get (by decide +kernel : u_at kl_281 27 = some (.getfield 48, [12, 25])) hW ha0 (by decide) rfl ?_
      refine en_segs [(30, .iload 4, [])] (by decide +kernel) (y := (32, [some (.ref a0), some (.int x1), some (.int x2), some (.int x3), some (.int x4)], [.int x4, .ref (aP d 12 25 a0), .int x2, .int v4, .int x3], h)) rfl ?_
      obtain ⟨v5, hv5, hF⟩ := ob_some hF
      refine en_iald (by decide +kernel : u_at kl_281 32 = some (.iaload, [])) hW ha0 rfl (by decide) hv5 ?_
      obtain ⟨v6, hv6, hF⟩ := ob_some hF
      refine en_idiv (by decide +kernel : u_at kl_281 33 = some (.idiv, [])) hv6 ?_
      refine en_segs [(34, .bipush 6, [])] (by decide +kernel) (y := (36, [some (.ref a0), some (.int x1), some (.int x2), some (.int x3), some (.int x4)], [.int 6, .int v6, .int v4, .int x3], h)) rfl ?_
      obtain ⟨v7, hv7, hF⟩ := ob_some hF
      refine en_irem (by decide +kernel : u_at kl_281 36 = some (.irem, [])) hv7 ?_
      obtain ⟨t8, hX, hK⟩ := ob_some hF
      have j9 : Ends (EX D) (u_at kl_281) (45, [some (.ref a0), some (.int x1), some (.int x2), some (.int x3), some (.int x4)], [.int t8, .int x3], h) QQ := by
        have hF := hK
        refine en_segs [(45, .iadd, []), (46, .istore_n 3, []), (47, .iinc 4 1, []), (50, .goto (-45), [5])] (by decide +kernel) (y := (5, [some (.ref a0), some (.int x1), some (.int x2), some (.int (x3 + t8)), some (.int (x4 + 1))], [], h)) rfl ?_
        exact (ih _ _ _ _ _ hF) _ _ _ _ rfl rfl rfl rfl  _ hW _ hQ
      have hF := hX
      refine en_ic_ne (by decide +kernel : u_at kl_281 37 = some (.if_icmp .ne 7, [44])) (fun b10 => ?_) (fun b10 => ?_)
      · replace hF := i_pos b10 hF
        refine en_segs [(40, .iconst 0, []), (41, .goto 4, [45])] (by decide +kernel) (y := (45, [some (.ref a0), some (.int x1), some (.int x2), some (.int x3), some (.int x4)], [.int 0, .int x3], h)) rfl ?_
        obtain rfl := Option.some.inj hF
        exact j9
      · replace hF := i_neg b10 hF
        refine en_segs [(44, .iconst 1, [])] (by decide +kernel) (y := (45, [some (.ref a0), some (.int x1), some (.int x2), some (.int x3), some (.int x4)], [.int 1, .int x3], h)) rfl ?_
        obtain rfl := Option.some.inj hF
        exact j9
def F_281 (c12 : Cl) (a0 : Nat) (p1 : Int32) (p2 : Int32) : Option Int32 :=
  G_281 c12 a0 0 [p1, p2, 0, 0] [] []
set_option maxRecDepth 100000 in
set_option maxHeartbeats 4000000 in
/-- HeadCountsModel.manyGo -/
theorem e_281 {D : Nat} {c0 c1 c2 c3 c4 c5 c6 c7 c8 c9 c10 c11 c12 c13 : Cl} {d : Ad} {h : UH} {a0 : Nat} {p1 : Int32} {p2 : Int32} {r : Int32} (hD : 1 ≤ D) (hW : HW (mkw c0 c1 c2 c3 c4 c5 c6 c7 c8 c9 c10 c11 c12 c13) d h) (ha0 : aK d a0 = (0, 12, 0)) (hF : F_281 c12 a0 p1 p2 = some r) : ∃ q, EX D 281 [.ref a0, .int p1, .int p2] h q ∧ q.1 = some (.int r) ∧ h = q.2 := by
  obtain ⟨D, rfl⟩ : ∃ E, D = E + 1 := ⟨D - 1, by omega⟩
  unfold F_281 at hF
  refine ex_in (kl := kl_281) (nL := 5) rfl (by decide +kernel) (Nat.le_of_ble_eq_true rfl) ?_
  obtain ⟨QQ, hQQ⟩ : ∃ QQ : UR → Prop, QQ = (fun q : UR => q.1 = some (.int r) ∧ h = q.2) := ⟨_, rfl⟩
  rw [← hQQ]
  have hQ : QQ (some (.int r), h) := by rw [hQQ]; exact ⟨rfl, rfl⟩
  clear hQQ
  show Ends (EX D) (u_at kl_281) (0, [some (.ref a0), some (.int p1), some (.int p2), none, none], [], h) QQ
  refine en_segs [(0, .iconst 0, []), (1, .istore_n 3, []), (2, .iconst 0, []), (3, .istore 4, [])] (by decide +kernel) (y := (5, [some (.ref a0), some (.int p1), some (.int p2), some (.int 0), some (.int 0)], [], h)) rfl ?_
  exact (g_281 (D := D) hD (d := d) ha0 _ _ _ _ _ hF) _ _ _ _ rfl rfl rfl rfl  _ hW _ hQ
def G_282 (a0 : Nat) (lab : Nat) (xs : List Int32) (ys : List Int64) (zs : List Nat) (c12 : Cl) : Option (Int32 × Cl) := match lab, xs, ys, zs with
  | 0, [x1, x2, x3], [], [] =>
    if 46656 ≤ x3 then
    F_256 c12 a0 >>= fun r2 =>
    ast c12 34 a0 1001 0 r2 >>= fun c12_3 =>
    ast c12_3 35 a0 1001 0 0 >>= fun c12_4 =>
    ast c12_4 36 a0 1001 0 0 >>= fun c12_5 =>
    ald (cA c12_5 34 a0) 1001 0 >>= fun v6 =>
    ast c12_5 37 a0 46656 v6 (vp_nar .boolean 1) >>= fun c12_7 =>
    F_223 c12_7 a0 x1 0 >>= fun r8 =>
    if r8 = x2 then
    some (0, c12_7)
    else
    G_282 a0 1 [x1, x2, 1, 0] [] [] c12_7
    else
    ast c12 37 a0 46656 x3 (vp_nar .boolean 0) >>= fun c12_10 =>
    G_282 a0 0 [x1, x2, x3 + 1] [] [] c12_10
  | 1, [x1, x2, x3, x4], [], [] =>
    if x3 ≤ x4 then
    some ((-2), c12)
    else
    ald (cA c12 34 a0) 1001 x4 >>= fun v12 =>
    F_280 c12 a0 v12 >>= fun r13 =>
    G_282 a0 2 [x1, x2, x3, x4, 0] [] [] r13
  | 2, [x1, x2, x3, x4, x5], [], [] =>
    if (cI c12 39 a0) ≤ x5 then
    G_282 a0 1 [x1, x2, x3, x4 + 1] [] [] c12
    else
    ald (cA c12 38 a0) 420 x5 >>= fun v15 =>
    ald (cA c12 37 a0) 46656 v15 >>= fun v16 =>
    if v16 = 0 then
    ald (cA c12 25 a0) 6 x1 >>= fun v18 =>
    idv v15 v18 >>= fun v19 =>
    irm v19 6 >>= fun v20 =>
    ((if v20 = x2 then
    some 1
    else
    some 0) : Option (Int32)) >>= fun (t21 : Int32) =>
    if x3 < 1000 then
    G_282 a0 3 [x1, x2, x3, x4, x5, v15, t21] [] [] c12
    else
    if t21 = 0 then
    some ((-3), c12)
    else
    G_282 a0 3 [x1, x2, x3, x4, x5, v15, t21] [] [] c12
    else
    G_282 a0 2 [x1, x2, x3, x4, x5 + 1] [] [] c12
  | 3, [x1, x2, x3, x4, x5, x6, x7], [], [] =>
    ast c12 37 a0 46656 x6 (vp_nar .boolean 1) >>= fun c12_26 =>
    ast c12_26 34 a0 1001 x3 x6 >>= fun c12_27 =>
    ald (cA c12_27 35 a0) 1001 x4 >>= fun v28 =>
    ast c12_27 35 a0 1001 x3 (v28 + 1) >>= fun c12_29 =>
    ald (cA c12_29 36 a0) 1001 x4 >>= fun v30 =>
    ald (cA c12_29 34 a0) 1001 x4 >>= fun v31 =>
    F_281 c12_29 a0 v31 x6 >>= fun r32 =>
    ast c12_29 36 a0 1001 x3 (v30 + r32) >>= fun c12_33 =>
    if x7 = 0 then
    G_282 a0 2 [x1, x2, x3 + 1, x4, x5 + 1] [] [] c12_33
    else
    some ((x3 + 1) - 1, c12_33)
  | _, _, _, _ => none
partial_fixpoint
set_option maxRecDepth 100000 in
set_option maxHeartbeats 4000000 in
theorem g_282 {D : Nat} (hD : 6 ≤ D + 1) {c0 c1 c2 c3 c4 c5 c6 c7 c8 c9 c10 c11 c13 : Cl} {d : Ad} {a0 : Nat} (ha0 : aK d a0 = (0, 12, 0)) : ∀ (lab : Nat) (xs : List Int32) (ys : List Int64) (zs : List Nat) (c12 : Cl) (r : (Int32 × Cl)), G_282 a0 lab xs ys zs c12 = some r →
    (∀ (x1 : Int32) (x2 : Int32) (x3 : Int32), lab = 0 → xs = [x1, x2, x3] → ys = [] → zs = [] → ∀ h : UH, HW (mkw c0 c1 c2 c3 c4 c5 c6 c7 c8 c9 c10 c11 c12 c13) d h → ∀ QQ : UR → Prop, (∀ h' : UH, HW (mkw c0 c1 c2 c3 c4 c5 c6 c7 c8 c9 c10 c11 r.2 c13) d h' → QQ (some (.int r.1), h')) → Ends (EX D) (u_at kl_282) (2, [some (.ref a0), some (.int x1), some (.int x2), some (.int x3), none, none, none, none], [], h) QQ) ∧
    (∀ (x1 : Int32) (x2 : Int32) (x3 : Int32) (x4 : Int32), lab = 1 → xs = [x1, x2, x3, x4] → ys = [] → zs = [] → ∀ h : UH, HW (mkw c0 c1 c2 c3 c4 c5 c6 c7 c8 c9 c10 c11 c12 c13) d h → ∀ QQ : UR → Prop, (∀ h' : UH, HW (mkw c0 c1 c2 c3 c4 c5 c6 c7 c8 c9 c10 c11 r.2 c13) d h' → QQ (some (.int r.1), h')) → Ends (EX D) (u_at kl_282) (74, [some (.ref a0), some (.int x1), some (.int x2), some (.int x3), some (.int x4), none, none, none], [], h) QQ) ∧
    (∀ (x1 : Int32) (x2 : Int32) (x3 : Int32) (x4 : Int32) (x5 : Int32), lab = 2 → xs = [x1, x2, x3, x4, x5] → ys = [] → zs = [] → ∀ h : UH, HW (mkw c0 c1 c2 c3 c4 c5 c6 c7 c8 c9 c10 c11 c12 c13) d h → ∀ QQ : UR → Prop, (∀ h' : UH, HW (mkw c0 c1 c2 c3 c4 c5 c6 c7 c8 c9 c10 c11 r.2 c13) d h' → QQ (some (.int r.1), h')) → Ends (EX D) (u_at kl_282) (94, [some (.ref a0), some (.int x1), some (.int x2), some (.int x3), some (.int x4), some (.int x5), none, none], [], h) QQ) ∧
    (∀ (x1 : Int32) (x2 : Int32) (x3 : Int32) (x4 : Int32) (x5 : Int32) (x6 : Int32) (x7 : Int32), lab = 3 → xs = [x1, x2, x3, x4, x5, x6, x7] → ys = [] → zs = [] → ∀ h : UH, HW (mkw c0 c1 c2 c3 c4 c5 c6 c7 c8 c9 c10 c11 c12 c13) d h → ∀ QQ : UR → Prop, (∀ h' : UH, HW (mkw c0 c1 c2 c3 c4 c5 c6 c7 c8 c9 c10 c11 r.2 c13) d h' → QQ (some (.int r.1), h')) → Ends (EX D) (u_at kl_282) (163, [some (.ref a0), some (.int x1), some (.int x2), some (.int x3), some (.int x4), some (.int x5), some (.int x6), some (.int x7)], [], h) QQ) := by
  refine G_282.partial_correctness _ (motive := fun lab xs ys zs c12 r =>
    (∀ (x1 : Int32) (x2 : Int32) (x3 : Int32), lab = 0 → xs = [x1, x2, x3] → ys = [] → zs = [] → ∀ h : UH, HW (mkw c0 c1 c2 c3 c4 c5 c6 c7 c8 c9 c10 c11 c12 c13) d h → ∀ QQ : UR → Prop, (∀ h' : UH, HW (mkw c0 c1 c2 c3 c4 c5 c6 c7 c8 c9 c10 c11 r.2 c13) d h' → QQ (some (.int r.1), h')) → Ends (EX D) (u_at kl_282) (2, [some (.ref a0), some (.int x1), some (.int x2), some (.int x3), none, none, none, none], [], h) QQ) ∧
    (∀ (x1 : Int32) (x2 : Int32) (x3 : Int32) (x4 : Int32), lab = 1 → xs = [x1, x2, x3, x4] → ys = [] → zs = [] → ∀ h : UH, HW (mkw c0 c1 c2 c3 c4 c5 c6 c7 c8 c9 c10 c11 c12 c13) d h → ∀ QQ : UR → Prop, (∀ h' : UH, HW (mkw c0 c1 c2 c3 c4 c5 c6 c7 c8 c9 c10 c11 r.2 c13) d h' → QQ (some (.int r.1), h')) → Ends (EX D) (u_at kl_282) (74, [some (.ref a0), some (.int x1), some (.int x2), some (.int x3), some (.int x4), none, none, none], [], h) QQ) ∧
    (∀ (x1 : Int32) (x2 : Int32) (x3 : Int32) (x4 : Int32) (x5 : Int32), lab = 2 → xs = [x1, x2, x3, x4, x5] → ys = [] → zs = [] → ∀ h : UH, HW (mkw c0 c1 c2 c3 c4 c5 c6 c7 c8 c9 c10 c11 c12 c13) d h → ∀ QQ : UR → Prop, (∀ h' : UH, HW (mkw c0 c1 c2 c3 c4 c5 c6 c7 c8 c9 c10 c11 r.2 c13) d h' → QQ (some (.int r.1), h')) → Ends (EX D) (u_at kl_282) (94, [some (.ref a0), some (.int x1), some (.int x2), some (.int x3), some (.int x4), some (.int x5), none, none], [], h) QQ) ∧
    (∀ (x1 : Int32) (x2 : Int32) (x3 : Int32) (x4 : Int32) (x5 : Int32) (x6 : Int32) (x7 : Int32), lab = 3 → xs = [x1, x2, x3, x4, x5, x6, x7] → ys = [] → zs = [] → ∀ h : UH, HW (mkw c0 c1 c2 c3 c4 c5 c6 c7 c8 c9 c10 c11 c12 c13) d h → ∀ QQ : UR → Prop, (∀ h' : UH, HW (mkw c0 c1 c2 c3 c4 c5 c6 c7 c8 c9 c10 c11 r.2 c13) d h' → QQ (some (.int r.1), h')) → Ends (EX D) (u_at kl_282) (163, [some (.ref a0), some (.int x1), some (.int x2), some (.int x3), some (.int x4), some (.int x5), some (.int x6), some (.int x7)], [], h) QQ)) ?_
  intro G ih lab xs ys zs c12 r hF
  refine ⟨?_, ?_, ?_, ?_⟩
  · intro x1 x2 x3 e1 e2 e3 e4 h hW QQ hQ
    subst e1 e2 e3 e4
    refine en_segs [(2, .iload_n 3, []), (3, .ldc 51, [46656])] (by decide +kernel) (y := (5, [some (.ref a0), some (.int x1), some (.int x2), some (.int x3), none, none, none, none], [.int 46656, .int x3], h)) rfl ?_
    refine en_ic_ge (by decide +kernel : u_at kl_282 5 = some (.if_icmp .ge 16, [21])) (fun b1 => ?_) (fun b1 => ?_)
    · replace hF := i_pos b1 hF
      refine en_segs [(21, .aload_n 0, [])] (by decide +kernel) (y := (22, [some (.ref a0), some (.int x1), some (.int x2), some (.int x3), none, none, none, none], [.ref a0], h)) rfl ?_
      refine en_get (by decide +kernel : u_at kl_282 22 = some (.getfield 73, [12, 34])) hW ha0 (by decide) rfl ?_
      refine en_segs [(25, .iconst 0, []), (26, .aload_n 0, [])] (by decide +kernel) (y := (27, [some (.ref a0), some (.int x1), some (.int x2), some (.int x3), none, none, none, none], [.ref a0, .int 0, .ref (aP d 12 34 a0)], h)) rfl ?_
      obtain ⟨r2, hr2, hF⟩ := ob_some hF
      refine en_vi (r := [.int 0, .ref (aP d 12 34 a0)]) (by decide +kernel : u_at kl_282 27 = some (.invokevirtual 446, [256, 0, 12])) hW ha0 rfl rfl (Nat.le_of_ble_eq_true rfl) (e_256 (D := D) (by omega) hW ha0 hr2) (fun h' q => ?_)
      subst q
      obtain ⟨c12_3, hc12_3, hF⟩ := ob_some hF
      refine en_iast (by decide +kernel : u_at kl_282 30 = some (.iastore, [])) hW ha0 rfl (by decide) hc12_3 (fun h hW => ?_)
      have hW : HW (mkw c0 c1 c2 c3 c4 c5 c6 c7 c8 c9 c10 c11 c12_3 c13) d h := hW
      refine en_segs [(31, .aload_n 0, [])] (by decide +kernel) (y := (32, [some (.ref a0), some (.int x1), some (.int x2), some (.int x3), none, none, none, none], [.ref a0], h)) rfl ?_
      refine en_get (by decide +kernel : u_at kl_282 32 = some (.getfield 76, [12, 35])) hW ha0 (by decide) rfl ?_
      refine en_segs [(35, .iconst 0, []), (36, .iconst 0, [])] (by decide +kernel) (y := (37, [some (.ref a0), some (.int x1), some (.int x2), some (.int x3), none, none, none, none], [.int 0, .int 0, .ref (aP d 12 35 a0)], h)) rfl ?_
      obtain ⟨c12_4, hc12_4, hF⟩ := ob_some hF
      refine en_iast (by decide +kernel : u_at kl_282 37 = some (.iastore, [])) hW ha0 rfl (by decide) hc12_4 (fun h hW => ?_)
      have hW : HW (mkw c0 c1 c2 c3 c4 c5 c6 c7 c8 c9 c10 c11 c12_4 c13) d h := hW
      refine en_segs [(38, .aload_n 0, [])] (by decide +kernel) (y := (39, [some (.ref a0), some (.int x1), some (.int x2), some (.int x3), none, none, none, none], [.ref a0], h)) rfl ?_
      refine en_get (by decide +kernel : u_at kl_282 39 = some (.getfield 79, [12, 36])) hW ha0 (by decide) rfl ?_
      refine en_segs [(42, .iconst 0, []), (43, .iconst 0, [])] (by decide +kernel) (y := (44, [some (.ref a0), some (.int x1), some (.int x2), some (.int x3), none, none, none, none], [.int 0, .int 0, .ref (aP d 12 36 a0)], h)) rfl ?_
      obtain ⟨c12_5, hc12_5, hF⟩ := ob_some hF
      refine en_iast (by decide +kernel : u_at kl_282 44 = some (.iastore, [])) hW ha0 rfl (by decide) hc12_5 (fun h hW => ?_)
      have hW : HW (mkw c0 c1 c2 c3 c4 c5 c6 c7 c8 c9 c10 c11 c12_5 c13) d h := hW
      refine en_segs [(45, .aload_n 0, [])] (by decide +kernel) (y := (46, [some (.ref a0), some (.int x1), some (.int x2), some (.int x3), none, none, none, none], [.ref a0], h)) rfl ?_
      refine en_get (by decide +kernel : u_at kl_282 46 = some (.getfield 82, [12, 37])) hW ha0 (by decide) rfl ?_
      refine en_segs [(49, .aload_n 0, [])] (by decide +kernel) (y := (50, [some (.ref a0), some (.int x1), some (.int x2), some (.int x3), none, none, none, none], [.ref a0, .ref (aP d 12 37 a0)], h)) rfl ?_
      refine en_get (by decide +kernel : u_at kl_282 50 = some (.getfield 73, [12, 34])) hW ha0 (by decide) rfl ?_
      refine en_segs [(53, .iconst 0, [])] (by decide +kernel) (y := (54, [some (.ref a0), some (.int x1), some (.int x2), some (.int x3), none, none, none, none], [.int 0, .ref (aP d 12 34 a0), .ref (aP d 12 37 a0)], h)) rfl ?_
      obtain ⟨v6, hv6, hF⟩ := ob_some hF
      refine en_iald (by decide +kernel : u_at kl_282 54 = some (.iaload, [])) hW ha0 rfl (by decide) hv6 ?_
      refine en_segs [(55, .iconst 1, [])] (by decide +kernel) (y := (56, [some (.ref a0), some (.int x1), some (.int x2), some (.int x3), none, none, none, none], [.int 1, .int v6, .ref (aP d 12 37 a0)], h)) rfl ?_
      obtain ⟨c12_7, hc12_7, hF⟩ := ob_some hF
      refine en_zast (by decide +kernel : u_at kl_282 56 = some (.bastore, [])) hW ha0 rfl (by decide) hc12_7 (fun h hW => ?_)
      have hW : HW (mkw c0 c1 c2 c3 c4 c5 c6 c7 c8 c9 c10 c11 c12_7 c13) d h := hW
      refine en_segs [(57, .aload_n 0, []), (58, .iload_n 1, []), (59, .iconst 0, [])] (by decide +kernel) (y := (60, [some (.ref a0), some (.int x1), some (.int x2), some (.int x3), none, none, none, none], [.int 0, .int x1, .ref a0], h)) rfl ?_
      obtain ⟨r8, hr8, hF⟩ := ob_some hF
      refine en_vi (r := []) (by decide +kernel : u_at kl_282 60 = some (.invokevirtual 343, [223, 2, 12])) hW ha0 rfl rfl (Nat.le_of_ble_eq_true rfl) (e_223 (D := D) (by omega) hW ha0 hr8) (fun h' q => ?_)
      subst q
      refine en_segs [(63, .iload_n 2, [])] (by decide +kernel) (y := (64, [some (.ref a0), some (.int x1), some (.int x2), some (.int x3), none, none, none, none], [.int x2, .int r8], h)) rfl ?_
      refine en_ic_ne (by decide +kernel : u_at kl_282 64 = some (.if_icmp .ne 5, [69])) (fun b9 => ?_) (fun b9 => ?_)
      · replace hF := i_pos b9 hF
        refine en_segs [(67, .iconst 0, [])] (by decide +kernel) (y := (68, [some (.ref a0), some (.int x1), some (.int x2), some (.int x3), none, none, none, none], [.int 0], h)) rfl ?_
        obtain rfl := Option.some.inj hF
        exact en_ret (by decide +kernel : u_at kl_282 68 = some (.ireturn, [0])) rfl (hQ _ hW)
      · replace hF := i_neg b9 hF
        refine en_segs [(69, .iconst 1, []), (70, .istore_n 3, []), (71, .iconst 0, []), (72, .istore 4, [])] (by decide +kernel) (y := (74, [some (.ref a0), some (.int x1), some (.int x2), some (.int 1), some (.int 0), none, none, none], [], h)) rfl ?_
        exact (ih _ _ _ _ _ _ hF).2.1 _ _ _ _ rfl rfl rfl rfl  _ hW _ hQ
    · replace hF := i_neg b1 hF
      refine en_segs [(8, .aload_n 0, [])] (by decide +kernel) (y := (9, [some (.ref a0), some (.int x1), some (.int x2), some (.int x3), none, none, none, none], [.ref a0], h)) rfl ?_
      refine en_get (by decide +kernel : u_at kl_282 9 = some (.getfield 82, [12, 37])) hW ha0 (by decide) rfl ?_
      refine en_segs [(12, .iload_n 3, []), (13, .iconst 0, [])] (by decide +kernel) (y := (14, [some (.ref a0), some (.int x1), some (.int x2), some (.int x3), none, none, none, none], [.int 0, .int x3, .ref (aP d 12 37 a0)], h)) rfl ?_
      obtain ⟨c12_10, hc12_10, hF⟩ := ob_some hF
      refine en_zast (by decide +kernel : u_at kl_282 14 = some (.bastore, [])) hW ha0 rfl (by decide) hc12_10 (fun h hW => ?_)
      have hW : HW (mkw c0 c1 c2 c3 c4 c5 c6 c7 c8 c9 c10 c11 c12_10 c13) d h := hW
      refine en_segs [(15, .iinc 3 1, []), (18, .goto (-16), [2])] (by decide +kernel) (y := (2, [some (.ref a0), some (.int x1), some (.int x2), some (.int (x3 + 1)), none, none, none, none], [], h)) rfl ?_
      exact (ih _ _ _ _ _ _ hF).1 _ _ _ rfl rfl rfl rfl  _ hW _ hQ
  · intro x1 x2 x3 x4 e1 e2 e3 e4 h hW QQ hQ
    subst e1 e2 e3 e4
    refine en_segs [(74, .iload 4, []), (76, .iload_n 3, [])] (by decide +kernel) (y := (77, [some (.ref a0), some (.int x1), some (.int x2), some (.int x3), some (.int x4), none, none, none], [.int x3, .int x4], h)) rfl ?_
    refine en_ic_ge (by decide +kernel : u_at kl_282 77 = some (.if_icmp .ge 168, [245])) (fun b11 => ?_) (fun b11 => ?_)
    · replace hF := i_pos b11 hF
      refine en_segs [(245, .bipush (-2), [])] (by decide +kernel) (y := (247, [some (.ref a0), some (.int x1), some (.int x2), some (.int x3), some (.int x4), none, none, none], [.int (-2)], h)) rfl ?_
      obtain rfl := Option.some.inj hF
      exact en_ret (by decide +kernel : u_at kl_282 247 = some (.ireturn, [0])) rfl (hQ _ hW)
    · replace hF := i_neg b11 hF
      refine en_segs [(80, .aload_n 0, []), (81, .aload_n 0, [])] (by decide +kernel) (y := (82, [some (.ref a0), some (.int x1), some (.int x2), some (.int x3), some (.int x4), none, none, none], [.ref a0, .ref a0], h)) rfl ?_
      refine en_get (by decide +kernel : u_at kl_282 82 = some (.getfield 73, [12, 34])) hW ha0 (by decide) rfl ?_
      refine en_segs [(85, .iload 4, [])] (by decide +kernel) (y := (87, [some (.ref a0), some (.int x1), some (.int x2), some (.int x3), some (.int x4), none, none, none], [.int x4, .ref (aP d 12 34 a0), .ref a0], h)) rfl ?_
      obtain ⟨v12, hv12, hF⟩ := ob_some hF
      refine en_iald (by decide +kernel : u_at kl_282 87 = some (.iaload, [])) hW ha0 rfl (by decide) hv12 ?_
      obtain ⟨r13, hr13, hF⟩ := ob_some hF
      refine en_vv (r := []) (by decide +kernel : u_at kl_282 88 = some (.invokevirtual 502, [280, 1, 12])) hW ha0 rfl rfl (Nat.le_of_ble_eq_true rfl) (e_280 (D := D) (by omega) hW ha0 hr13) (fun h hW => ?_)
      have hW : HW (mkw c0 c1 c2 c3 c4 c5 c6 c7 c8 c9 c10 c11 r13 c13) d h := hW
      refine en_segs [(91, .iconst 0, []), (92, .istore 5, [])] (by decide +kernel) (y := (94, [some (.ref a0), some (.int x1), some (.int x2), some (.int x3), some (.int x4), some (.int 0), none, none], [], h)) rfl ?_
      exact (ih _ _ _ _ _ _ hF).2.2.1 _ _ _ _ _ rfl rfl rfl rfl  _ hW _ hQ
  · intro x1 x2 x3 x4 x5 e1 e2 e3 e4 h hW QQ hQ
    subst e1 e2 e3 e4
    refine en_segs [(94, .iload 5, []), (96, .aload_n 0, [])] (by decide +kernel) (y := (97, [some (.ref a0), some (.int x1), some (.int x2), some (.int x3), some (.int x4), some (.int x5), none, none], [.ref a0, .int x5], h)) rfl ?_
    refine en_get (by decide +kernel : u_at kl_282 97 = some (.getfield 496, [12, 39])) hW ha0 (by decide) rfl ?_
    refine en_ic_ge (by decide +kernel : u_at kl_282 100 = some (.if_icmp .ge 139, [239])) (fun b14 => ?_) (fun b14 => ?_)
    · replace hF := i_pos b14 hF
      refine en_segs [(239, .iinc 4 1, []), (242, .goto (-168), [74])] (by decide +kernel) (y := (74, [some (.ref a0), some (.int x1), some (.int x2), some (.int x3), some (.int (x4 + 1)), some (.int x5), none, none], [], h)) rfl ?_
      refine en_fg (fg_k (fg_k (fg_k (fg_k (fg_k (fg_d (fg_k (fg_k fg_0)))))))) ?_
      exact (ih _ _ _ _ _ _ hF).2.1 _ _ _ _ rfl rfl rfl rfl  _ hW _ hQ
    · replace hF := i_neg b14 hF
      refine en_segs [(103, .aload_n 0, [])] (by decide +kernel) (y := (104, [some (.ref a0), some (.int x1), some (.int x2), some (.int x3), some (.int x4), some (.int x5), none, none], [.ref a0], h)) rfl ?_
      refine en_get (by decide +kernel : u_at kl_282 104 = some (.getfield 86, [12, 38])) hW ha0 (by decide) rfl ?_
      refine en_segs [(107, .iload 5, [])] (by decide +kernel) (y := (109, [some (.ref a0), some (.int x1), some (.int x2), some (.int x3), some (.int x4), some (.int x5), none, none], [.int x5, .ref (aP d 12 38 a0)], h)) rfl ?_
      obtain ⟨v15, hv15, hF⟩ := ob_some hF
      refine en_iald (by decide +kernel : u_at kl_282 109 = some (.iaload, [])) hW ha0 rfl (by decide) hv15 ?_
      refine en_segs [(110, .istore 6, []), (112, .aload_n 0, [])] (by decide +kernel) (y := (113, [some (.ref a0), some (.int x1), some (.int x2), some (.int x3), some (.int x4), some (.int x5), some (.int v15), none], [.ref a0], h)) rfl ?_
      refine en_get (by decide +kernel : u_at kl_282 113 = some (.getfield 82, [12, 37])) hW ha0 (by decide) rfl ?_
      refine en_segs [(116, .iload 6, [])] (by decide +kernel) (y := (118, [some (.ref a0), some (.int x1), some (.int x2), some (.int x3), some (.int x4), some (.int x5), some (.int v15), none], [.int v15, .ref (aP d 12 37 a0)], h)) rfl ?_
      obtain ⟨v16, hv16, hF⟩ := ob_some hF
      refine en_zald (by decide +kernel : u_at kl_282 118 = some (.baload, [])) hW ha0 rfl (by decide) hv16 ?_
      refine en_if_eq (by decide +kernel : u_at kl_282 119 = some (.ifCond .eq 6, [125])) (fun b17 => ?_) (fun b17 => ?_)
      · replace hF := i_pos b17 hF
        refine en_segs [(125, .iload 6, []), (127, .aload_n 0, [])] (by decide +kernel) (y := (128, [some (.ref a0), some (.int x1), some (.int x2), some (.int x3), some (.int x4), some (.int x5), some (.int v15), none], [.ref a0, .int v15], h)) rfl ?_
        refine en_get (by decide +kernel : u_at kl_282 128 = some (.getfield 48, [12, 25])) hW ha0 (by decide) rfl ?_
        refine en_segs [(131, .iload_n 1, [])] (by decide +kernel) (y := (132, [some (.ref a0), some (.int x1), some (.int x2), some (.int x3), some (.int x4), some (.int x5), some (.int v15), none], [.int x1, .ref (aP d 12 25 a0), .int v15], h)) rfl ?_
        obtain ⟨v18, hv18, hF⟩ := ob_some hF
        refine en_iald (by decide +kernel : u_at kl_282 132 = some (.iaload, [])) hW ha0 rfl (by decide) hv18 ?_
        obtain ⟨v19, hv19, hF⟩ := ob_some hF
        refine en_idiv (by decide +kernel : u_at kl_282 133 = some (.idiv, [])) hv19 ?_
        refine en_segs [(134, .bipush 6, [])] (by decide +kernel) (y := (136, [some (.ref a0), some (.int x1), some (.int x2), some (.int x3), some (.int x4), some (.int x5), some (.int v15), none], [.int 6, .int v19], h)) rfl ?_
        obtain ⟨v20, hv20, hF⟩ := ob_some hF
        refine en_irem (by decide +kernel : u_at kl_282 136 = some (.irem, [])) hv20 ?_
        refine en_segs [(137, .iload_n 2, [])] (by decide +kernel) (y := (138, [some (.ref a0), some (.int x1), some (.int x2), some (.int x3), some (.int x4), some (.int x5), some (.int v15), none], [.int x2, .int v20], h)) rfl ?_
        obtain ⟨t21, hX, hK⟩ := ob_some hF
        have j22 : ∀ h : UH, HW (mkw c0 c1 c2 c3 c4 c5 c6 c7 c8 c9 c10 c11 c12 c13) d h → Ends (EX D) (u_at kl_282) (146, [some (.ref a0), some (.int x1), some (.int x2), some (.int x3), some (.int x4), some (.int x5), some (.int v15), none], [.int t21], h) QQ := by
          intro h hW
          have hF := hK
          refine en_segs [(146, .istore 7, []), (148, .iload_n 3, []), (149, .sipush 1000, [])] (by decide +kernel) (y := (152, [some (.ref a0), some (.int x1), some (.int x2), some (.int x3), some (.int x4), some (.int x5), some (.int v15), some (.int t21)], [.int 1000, .int x3], h)) rfl ?_
          refine en_ic_lt (by decide +kernel : u_at kl_282 152 = some (.if_icmp .lt 11, [163])) (fun b23 => ?_) (fun b23 => ?_)
          · replace hF := i_pos b23 hF
            exact (ih _ _ _ _ _ _ hF).2.2.2 _ _ _ _ _ _ _ rfl rfl rfl rfl  _ hW _ hQ
          · replace hF := i_neg b23 hF
            refine en_segs [(155, .iload 7, [])] (by decide +kernel) (y := (157, [some (.ref a0), some (.int x1), some (.int x2), some (.int x3), some (.int x4), some (.int x5), some (.int v15), some (.int t21)], [.int t21], h)) rfl ?_
            refine en_if_ne (by decide +kernel : u_at kl_282 157 = some (.ifCond .ne 6, [163])) (fun b24 => ?_) (fun b24 => ?_)
            · replace hF := i_pos b24 hF
              refine en_segs [(160, .bipush (-3), [])] (by decide +kernel) (y := (162, [some (.ref a0), some (.int x1), some (.int x2), some (.int x3), some (.int x4), some (.int x5), some (.int v15), some (.int t21)], [.int (-3)], h)) rfl ?_
              obtain rfl := Option.some.inj hF
              exact en_ret (by decide +kernel : u_at kl_282 162 = some (.ireturn, [0])) rfl (hQ _ hW)
            · replace hF := i_neg b24 hF
              exact (ih _ _ _ _ _ _ hF).2.2.2 _ _ _ _ _ _ _ rfl rfl rfl rfl  _ hW _ hQ
        have hF := hX
        refine en_ic_ne (by decide +kernel : u_at kl_282 138 = some (.if_icmp .ne 7, [145])) (fun b25 => ?_) (fun b25 => ?_)
        · replace hF := i_pos b25 hF
          refine en_segs [(141, .iconst 1, []), (142, .goto 4, [146])] (by decide +kernel) (y := (146, [some (.ref a0), some (.int x1), some (.int x2), some (.int x3), some (.int x4), some (.int x5), some (.int v15), none], [.int 1], h)) rfl ?_
          obtain rfl := Option.some.inj hF
          exact j22 _ hW
        · replace hF := i_neg b25 hF
          refine en_segs [(145, .iconst 0, [])] (by decide +kernel) (y := (146, [some (.ref a0), some (.int x1), some (.int x2), some (.int x3), some (.int x4), some (.int x5), some (.int v15), none], [.int 0], h)) rfl ?_
          obtain rfl := Option.some.inj hF
          exact j22 _ hW
      · replace hF := i_neg b17 hF
        refine en_segs [(122, .goto 111, [233]), (233, .iinc 5 1, []), (236, .goto (-142), [94])] (by decide +kernel) (y := (94, [some (.ref a0), some (.int x1), some (.int x2), some (.int x3), some (.int x4), some (.int (x5 + 1)), some (.int v15), none], [], h)) rfl ?_
        refine en_fg (fg_k (fg_k (fg_k (fg_k (fg_k (fg_k (fg_d (fg_k fg_0)))))))) ?_
        exact (ih _ _ _ _ _ _ hF).2.2.1 _ _ _ _ _ rfl rfl rfl rfl  _ hW _ hQ
  · intro x1 x2 x3 x4 x5 x6 x7 e1 e2 e3 e4 h hW QQ hQ
    subst e1 e2 e3 e4
    refine en_segs [(163, .aload_n 0, [])] (by decide +kernel) (y := (164, [some (.ref a0), some (.int x1), some (.int x2), some (.int x3), some (.int x4), some (.int x5), some (.int x6), some (.int x7)], [.ref a0], h)) rfl ?_
    refine en_get (by decide +kernel : u_at kl_282 164 = some (.getfield 82, [12, 37])) hW ha0 (by decide) rfl ?_
    refine en_segs [(167, .iload 6, []), (169, .iconst 1, [])] (by decide +kernel) (y := (170, [some (.ref a0), some (.int x1), some (.int x2), some (.int x3), some (.int x4), some (.int x5), some (.int x6), some (.int x7)], [.int 1, .int x6, .ref (aP d 12 37 a0)], h)) rfl ?_
    obtain ⟨c12_26, hc12_26, hF⟩ := ob_some hF
    refine en_zast (by decide +kernel : u_at kl_282 170 = some (.bastore, [])) hW ha0 rfl (by decide) hc12_26 (fun h hW => ?_)
    have hW : HW (mkw c0 c1 c2 c3 c4 c5 c6 c7 c8 c9 c10 c11 c12_26 c13) d h := hW
    refine en_segs [(171, .aload_n 0, [])] (by decide +kernel) (y := (172, [some (.ref a0), some (.int x1), some (.int x2), some (.int x3), some (.int x4), some (.int x5), some (.int x6), some (.int x7)], [.ref a0], h)) rfl ?_
    refine en_get (by decide +kernel : u_at kl_282 172 = some (.getfield 73, [12, 34])) hW ha0 (by decide) rfl ?_
    refine en_segs [(175, .iload_n 3, []), (176, .iload 6, [])] (by decide +kernel) (y := (178, [some (.ref a0), some (.int x1), some (.int x2), some (.int x3), some (.int x4), some (.int x5), some (.int x6), some (.int x7)], [.int x6, .int x3, .ref (aP d 12 34 a0)], h)) rfl ?_
    obtain ⟨c12_27, hc12_27, hF⟩ := ob_some hF
    refine en_iast (by decide +kernel : u_at kl_282 178 = some (.iastore, [])) hW ha0 rfl (by decide) hc12_27 (fun h hW => ?_)
    have hW : HW (mkw c0 c1 c2 c3 c4 c5 c6 c7 c8 c9 c10 c11 c12_27 c13) d h := hW
    refine en_segs [(179, .aload_n 0, [])] (by decide +kernel) (y := (180, [some (.ref a0), some (.int x1), some (.int x2), some (.int x3), some (.int x4), some (.int x5), some (.int x6), some (.int x7)], [.ref a0], h)) rfl ?_
    refine en_get (by decide +kernel : u_at kl_282 180 = some (.getfield 76, [12, 35])) hW ha0 (by decide) rfl ?_
    refine en_segs [(183, .iload_n 3, []), (184, .aload_n 0, [])] (by decide +kernel) (y := (185, [some (.ref a0), some (.int x1), some (.int x2), some (.int x3), some (.int x4), some (.int x5), some (.int x6), some (.int x7)], [.ref a0, .int x3, .ref (aP d 12 35 a0)], h)) rfl ?_
    refine en_get (by decide +kernel : u_at kl_282 185 = some (.getfield 76, [12, 35])) hW ha0 (by decide) rfl ?_
    refine en_segs [(188, .iload 4, [])] (by decide +kernel) (y := (190, [some (.ref a0), some (.int x1), some (.int x2), some (.int x3), some (.int x4), some (.int x5), some (.int x6), some (.int x7)], [.int x4, .ref (aP d 12 35 a0), .int x3, .ref (aP d 12 35 a0)], h)) rfl ?_
    obtain ⟨v28, hv28, hF⟩ := ob_some hF
    refine en_iald (by decide +kernel : u_at kl_282 190 = some (.iaload, [])) hW ha0 rfl (by decide) hv28 ?_
    refine en_segs [(191, .iconst 1, []), (192, .iadd, [])] (by decide +kernel) (y := (193, [some (.ref a0), some (.int x1), some (.int x2), some (.int x3), some (.int x4), some (.int x5), some (.int x6), some (.int x7)], [.int (v28 + 1), .int x3, .ref (aP d 12 35 a0)], h)) rfl ?_
    obtain ⟨c12_29, hc12_29, hF⟩ := ob_some hF
    refine en_iast (by decide +kernel : u_at kl_282 193 = some (.iastore, [])) hW ha0 rfl (by decide) hc12_29 (fun h hW => ?_)
    have hW : HW (mkw c0 c1 c2 c3 c4 c5 c6 c7 c8 c9 c10 c11 c12_29 c13) d h := hW
    refine en_segs [(194, .aload_n 0, [])] (by decide +kernel) (y := (195, [some (.ref a0), some (.int x1), some (.int x2), some (.int x3), some (.int x4), some (.int x5), some (.int x6), some (.int x7)], [.ref a0], h)) rfl ?_
    refine en_get (by decide +kernel : u_at kl_282 195 = some (.getfield 79, [12, 36])) hW ha0 (by decide) rfl ?_
    refine en_segs [(198, .iload_n 3, []), (199, .aload_n 0, [])] (by decide +kernel) (y := (200, [some (.ref a0), some (.int x1), some (.int x2), some (.int x3), some (.int x4), some (.int x5), some (.int x6), some (.int x7)], [.ref a0, .int x3, .ref (aP d 12 36 a0)], h)) rfl ?_
    refine en_get (by decide +kernel : u_at kl_282 200 = some (.getfield 79, [12, 36])) hW ha0 (by decide) rfl ?_
    refine en_segs [(203, .iload 4, [])] (by decide +kernel) (y := (205, [some (.ref a0), some (.int x1), some (.int x2), some (.int x3), some (.int x4), some (.int x5), some (.int x6), some (.int x7)], [.int x4, .ref (aP d 12 36 a0), .int x3, .ref (aP d 12 36 a0)], h)) rfl ?_
    obtain ⟨v30, hv30, hF⟩ := ob_some hF
    refine en_iald (by decide +kernel : u_at kl_282 205 = some (.iaload, [])) hW ha0 rfl (by decide) hv30 ?_
    refine en_segs [(206, .aload_n 0, []), (207, .aload_n 0, [])] (by decide +kernel) (y := (208, [some (.ref a0), some (.int x1), some (.int x2), some (.int x3), some (.int x4), some (.int x5), some (.int x6), some (.int x7)], [.ref a0, .ref a0, .int v30, .int x3, .ref (aP d 12 36 a0)], h)) rfl ?_
    refine en_get (by decide +kernel : u_at kl_282 208 = some (.getfield 73, [12, 34])) hW ha0 (by decide) rfl ?_
    refine en_segs [(211, .iload 4, [])] (by decide +kernel) (y := (213, [some (.ref a0), some (.int x1), some (.int x2), some (.int x3), some (.int x4), some (.int x5), some (.int x6), some (.int x7)], [.int x4, .ref (aP d 12 34 a0), .ref a0, .int v30, .int x3, .ref (aP d 12 36 a0)], h)) rfl ?_
    obtain ⟨v31, hv31, hF⟩ := ob_some hF
    refine en_iald (by decide +kernel : u_at kl_282 213 = some (.iaload, [])) hW ha0 rfl (by decide) hv31 ?_
    refine en_segs [(214, .iload 6, [])] (by decide +kernel) (y := (216, [some (.ref a0), some (.int x1), some (.int x2), some (.int x3), some (.int x4), some (.int x5), some (.int x6), some (.int x7)], [.int x6, .int v31, .ref a0, .int v30, .int x3, .ref (aP d 12 36 a0)], h)) rfl ?_
    obtain ⟨r32, hr32, hF⟩ := ob_some hF
    refine en_vi (r := [.int v30, .int x3, .ref (aP d 12 36 a0)]) (by decide +kernel : u_at kl_282 216 = some (.invokevirtual 505, [281, 2, 12])) hW ha0 rfl rfl (Nat.le_of_ble_eq_true rfl) (e_281 (D := D) (by omega) hW ha0 hr32) (fun h' q => ?_)
    subst q
    refine en_segs [(219, .iadd, [])] (by decide +kernel) (y := (220, [some (.ref a0), some (.int x1), some (.int x2), some (.int x3), some (.int x4), some (.int x5), some (.int x6), some (.int x7)], [.int (v30 + r32), .int x3, .ref (aP d 12 36 a0)], h)) rfl ?_
    obtain ⟨c12_33, hc12_33, hF⟩ := ob_some hF
    refine en_iast (by decide +kernel : u_at kl_282 220 = some (.iastore, [])) hW ha0 rfl (by decide) hc12_33 (fun h hW => ?_)
    have hW : HW (mkw c0 c1 c2 c3 c4 c5 c6 c7 c8 c9 c10 c11 c12_33 c13) d h := hW
    refine en_segs [(221, .iinc 3 1, []), (224, .iload 7, [])] (by decide +kernel) (y := (226, [some (.ref a0), some (.int x1), some (.int x2), some (.int (x3 + 1)), some (.int x4), some (.int x5), some (.int x6), some (.int x7)], [.int x7], h)) rfl ?_
    refine en_if_eq (by decide +kernel : u_at kl_282 226 = some (.ifCond .eq 7, [233])) (fun b34 => ?_) (fun b34 => ?_)
    · replace hF := i_pos b34 hF
      refine en_segs [(233, .iinc 5 1, []), (236, .goto (-142), [94])] (by decide +kernel) (y := (94, [some (.ref a0), some (.int x1), some (.int x2), some (.int (x3 + 1)), some (.int x4), some (.int (x5 + 1)), some (.int x6), some (.int x7)], [], h)) rfl ?_
      refine en_fg (fg_k (fg_k (fg_k (fg_k (fg_k (fg_k (fg_d (fg_d fg_0)))))))) ?_
      exact (ih _ _ _ _ _ _ hF).2.2.1 _ _ _ _ _ rfl rfl rfl rfl  _ hW _ hQ
    · replace hF := i_neg b34 hF
      refine en_segs [(229, .iload_n 3, []), (230, .iconst 1, []), (231, .isub, [])] (by decide +kernel) (y := (232, [some (.ref a0), some (.int x1), some (.int x2), some (.int (x3 + 1)), some (.int x4), some (.int x5), some (.int x6), some (.int x7)], [.int ((x3 + 1) - 1)], h)) rfl ?_
      obtain rfl := Option.some.inj hF
      exact en_ret (by decide +kernel : u_at kl_282 232 = some (.ireturn, [0])) rfl (hQ _ hW)
def F_282 (c12 : Cl) (a0 : Nat) (p1 : Int32) (p2 : Int32) : Option (Int32 × Cl) :=
  G_282 a0 0 [p1, p2, 0] [] [] c12
set_option maxRecDepth 100000 in
set_option maxHeartbeats 4000000 in
/-- HeadCountsModel.steals -/
theorem e_282 {D : Nat} {c0 c1 c2 c3 c4 c5 c6 c7 c8 c9 c10 c11 c12 c13 : Cl} {d : Ad} {h : UH} {a0 : Nat} {p1 : Int32} {p2 : Int32} {r : (Int32 × Cl)} (hD : 6 ≤ D) (hW : HW (mkw c0 c1 c2 c3 c4 c5 c6 c7 c8 c9 c10 c11 c12 c13) d h) (ha0 : aK d a0 = (0, 12, 0)) (hF : F_282 c12 a0 p1 p2 = some r) : ∃ q, EX D 282 [.ref a0, .int p1, .int p2] h q ∧ q.1 = some (.int r.1) ∧ HW (mkw c0 c1 c2 c3 c4 c5 c6 c7 c8 c9 c10 c11 r.2 c13) d q.2 := by
  obtain ⟨D, rfl⟩ : ∃ E, D = E + 1 := ⟨D - 1, by omega⟩
  unfold F_282 at hF
  refine ex_in (kl := kl_282) (nL := 8) rfl (by decide +kernel) (Nat.le_of_ble_eq_true rfl) ?_
  obtain ⟨QQ, hQQ⟩ : ∃ QQ : UR → Prop, QQ = (fun q : UR => q.1 = some (.int r.1) ∧ HW (mkw c0 c1 c2 c3 c4 c5 c6 c7 c8 c9 c10 c11 r.2 c13) d q.2) := ⟨_, rfl⟩
  rw [← hQQ]
  have hQ : ∀ h' : UH, HW (mkw c0 c1 c2 c3 c4 c5 c6 c7 c8 c9 c10 c11 r.2 c13) d h' → QQ (some (.int r.1), h') := fun h' p => by rw [hQQ]; exact ⟨rfl, p⟩
  clear hQQ
  show Ends (EX D) (u_at kl_282) (0, [some (.ref a0), some (.int p1), some (.int p2), none, none, none, none, none], [], h) QQ
  refine en_segs [(0, .iconst 0, []), (1, .istore_n 3, [])] (by decide +kernel) (y := (2, [some (.ref a0), some (.int p1), some (.int p2), some (.int 0), none, none, none, none], [], h)) rfl ?_
  exact (g_282 (D := D) hD (d := d) ha0 _ _ _ _ _ _ hF).1 _ _ _ rfl rfl rfl rfl  _ hW _ hQ
def F_283 (c12 : Cl) (a0 : Nat) (p1 : Int32) (p2 : Int32) (p3 : Int32) : Option (Int32 × Cl) :=
  F_221 c12 a0 p1 >>= fun r1 =>
  if r1 = 0 then
  some ((-1), c12)
  else
  F_224 c12 a0 p1 >>= fun r3 =>
  if r3 = 0 then
  some ((-1), c12)
  else
  F_219 c12 a0 p2 >>= fun r5 =>
  if r5 = 0 then
  some ((-1), c12)
  else
  F_170 ((p3 : Int32).toInt64) 0 1 >>= fun r7 =>
  if r7 = 0 then
  some ((-1), c12)
  else
  F_282 c12 a0 p1 p2 >>= fun r9 =>
  ((if 0 ≤ r9.1 then
  if p3 = 0 then
  ald (cA r9.2 35 a0) 1001 r9.1 >>= fun v14 =>
  some v14
  else
  ald (cA r9.2 36 a0) 1001 r9.1 >>= fun v15 =>
  some v15
  else
  some r9.1) : Option (Int32)) >>= fun (t10 : Int32) =>
  some (t10, r9.2)
set_option maxRecDepth 100000 in
set_option maxHeartbeats 4000000 in
/-- HeadCountsModel.theft -/
theorem e_283 {D : Nat} {c0 c1 c2 c3 c4 c5 c6 c7 c8 c9 c10 c11 c12 c13 : Cl} {d : Ad} {h : UH} {a0 : Nat} {p1 : Int32} {p2 : Int32} {p3 : Int32} {r : (Int32 × Cl)} (hD : 7 ≤ D) (hW : HW (mkw c0 c1 c2 c3 c4 c5 c6 c7 c8 c9 c10 c11 c12 c13) d h) (ha0 : aK d a0 = (0, 12, 0)) (hF : F_283 c12 a0 p1 p2 p3 = some r) : ∃ q, EX D 283 [.ref a0, .int p1, .int p2, .int p3] h q ∧ q.1 = some (.int r.1) ∧ HW (mkw c0 c1 c2 c3 c4 c5 c6 c7 c8 c9 c10 c11 r.2 c13) d q.2 := by
  obtain ⟨D, rfl⟩ : ∃ E, D = E + 1 := ⟨D - 1, by omega⟩
  unfold F_283 at hF
  refine ex_in (kl := kl_283) (nL := 5) rfl (by decide +kernel) (Nat.le_of_ble_eq_true rfl) ?_
  obtain ⟨QQ, hQQ⟩ : ∃ QQ : UR → Prop, QQ = (fun q : UR => q.1 = some (.int r.1) ∧ HW (mkw c0 c1 c2 c3 c4 c5 c6 c7 c8 c9 c10 c11 r.2 c13) d q.2) := ⟨_, rfl⟩
  rw [← hQQ]
  have hQ : ∀ h' : UH, HW (mkw c0 c1 c2 c3 c4 c5 c6 c7 c8 c9 c10 c11 r.2 c13) d h' → QQ (some (.int r.1), h') := fun h' p => by rw [hQQ]; exact ⟨rfl, p⟩
  clear hQQ
  show Ends (EX D) (u_at kl_283) (0, [some (.ref a0), some (.int p1), some (.int p2), some (.int p3), none], [], h) QQ
  refine en_segs [(0, .aload_n 0, []), (1, .iload_n 1, [])] (by decide +kernel) (y := (2, [some (.ref a0), some (.int p1), some (.int p2), some (.int p3), none], [.int p1, .ref a0], h)) rfl ?_
  obtain ⟨r1, hr1, hF⟩ := ob_some hF
  refine en_vi (r := []) (by decide +kernel : u_at kl_283 2 = some (.invokevirtual 367, [221, 1, 12])) hW ha0 rfl rfl (Nat.le_of_ble_eq_true rfl) (e_221 (D := D) (by omega) hW ha0 hr1) (fun h' q => ?_)
  subst q
  refine en_if_eq (by decide +kernel : u_at kl_283 5 = some (.ifCond .eq 29, [34])) (fun b2 => ?_) (fun b2 => ?_)
  · replace hF := i_pos b2 hF
    refine en_segs [(34, .iconst (-1), [])] (by decide +kernel) (y := (35, [some (.ref a0), some (.int p1), some (.int p2), some (.int p3), none], [.int (-1)], h)) rfl ?_
    obtain rfl := Option.some.inj hF
    exact en_ret (by decide +kernel : u_at kl_283 35 = some (.ireturn, [0])) rfl (hQ _ hW)
  · replace hF := i_neg b2 hF
    refine en_segs [(8, .aload_n 0, []), (9, .iload_n 1, [])] (by decide +kernel) (y := (10, [some (.ref a0), some (.int p1), some (.int p2), some (.int p3), none], [.int p1, .ref a0], h)) rfl ?_
    obtain ⟨r3, hr3, hF⟩ := ob_some hF
    refine en_vi (r := []) (by decide +kernel : u_at kl_283 10 = some (.invokevirtual 346, [224, 1, 12])) hW ha0 rfl rfl (Nat.le_of_ble_eq_true rfl) (e_224 (D := D) (by omega) hW ha0 hr3) (fun h' q => ?_)
    subst q
    refine en_if_eq (by decide +kernel : u_at kl_283 13 = some (.ifCond .eq 21, [34])) (fun b4 => ?_) (fun b4 => ?_)
    · replace hF := i_pos b4 hF
      refine en_segs [(34, .iconst (-1), [])] (by decide +kernel) (y := (35, [some (.ref a0), some (.int p1), some (.int p2), some (.int p3), none], [.int (-1)], h)) rfl ?_
      obtain rfl := Option.some.inj hF
      exact en_ret (by decide +kernel : u_at kl_283 35 = some (.ireturn, [0])) rfl (hQ _ hW)
    · replace hF := i_neg b4 hF
      refine en_segs [(16, .aload_n 0, []), (17, .iload_n 2, [])] (by decide +kernel) (y := (18, [some (.ref a0), some (.int p1), some (.int p2), some (.int p3), none], [.int p2, .ref a0], h)) rfl ?_
      obtain ⟨r5, hr5, hF⟩ := ob_some hF
      refine en_vi (r := []) (by decide +kernel : u_at kl_283 18 = some (.invokevirtual 372, [219, 1, 12])) hW ha0 rfl rfl (Nat.le_of_ble_eq_true rfl) (e_219 (D := D) (by omega) hW ha0 hr5) (fun h' q => ?_)
      subst q
      refine en_if_eq (by decide +kernel : u_at kl_283 21 = some (.ifCond .eq 13, [34])) (fun b6 => ?_) (fun b6 => ?_)
      · replace hF := i_pos b6 hF
        refine en_segs [(34, .iconst (-1), [])] (by decide +kernel) (y := (35, [some (.ref a0), some (.int p1), some (.int p2), some (.int p3), none], [.int (-1)], h)) rfl ?_
        obtain rfl := Option.some.inj hF
        exact en_ret (by decide +kernel : u_at kl_283 35 = some (.ireturn, [0])) rfl (hQ _ hW)
      · replace hF := i_neg b6 hF
        refine en_segs [(24, .iload_n 3, []), (25, .i2l, []), (26, .lconst 0, []), (27, .lconst 1, [])] (by decide +kernel) (y := (28, [some (.ref a0), some (.int p1), some (.int p2), some (.int p3), none], [.long 1, .long 0, .long ((p3 : Int32).toInt64)], h)) rfl ?_
        obtain ⟨r7, hr7, hF⟩ := ob_some hF
        refine en_si (r := []) (by decide +kernel : u_at kl_283 28 = some (.invokestatic 161, [170, 3])) rfl rfl (Nat.le_of_ble_eq_true rfl) (e_170 (D := D) (by omega) hW hr7) (fun h' q => ?_)
        subst q
        refine en_if_ne (by decide +kernel : u_at kl_283 31 = some (.ifCond .ne 5, [36])) (fun b8 => ?_) (fun b8 => ?_)
        · replace hF := i_pos b8 hF
          refine en_segs [(34, .iconst (-1), [])] (by decide +kernel) (y := (35, [some (.ref a0), some (.int p1), some (.int p2), some (.int p3), none], [.int (-1)], h)) rfl ?_
          obtain rfl := Option.some.inj hF
          exact en_ret (by decide +kernel : u_at kl_283 35 = some (.ireturn, [0])) rfl (hQ _ hW)
        · replace hF := i_neg b8 hF
          refine en_segs [(36, .aload_n 0, []), (37, .iload_n 1, []), (38, .iload_n 2, [])] (by decide +kernel) (y := (39, [some (.ref a0), some (.int p1), some (.int p2), some (.int p3), none], [.int p2, .int p1, .ref a0], h)) rfl ?_
          obtain ⟨r9, hr9, hF⟩ := ob_some hF
          refine en_vi (r := []) (by decide +kernel : u_at kl_283 39 = some (.invokevirtual 508, [282, 2, 12])) hW ha0 rfl rfl (Nat.le_of_ble_eq_true rfl) (e_282 (D := D) (by omega) hW ha0 hr9) (fun h hW => ?_)
          have hW : HW (mkw c0 c1 c2 c3 c4 c5 c6 c7 c8 c9 c10 c11 r9.2 c13) d h := hW
          refine en_segs [(42, .istore 4, []), (44, .iload 4, [])] (by decide +kernel) (y := (46, [some (.ref a0), some (.int p1), some (.int p2), some (.int p3), some (.int r9.1)], [.int r9.1], h)) rfl ?_
          obtain ⟨t10, hX, hK⟩ := ob_some hF
          have j11 : ∀ h : UH, HW (mkw c0 c1 c2 c3 c4 c5 c6 c7 c8 c9 c10 c11 r9.2 c13) d h → Ends (EX D) (u_at kl_283) (75, [some (.ref a0), some (.int p1), some (.int p2), some (.int p3), some (.int r9.1)], [.int t10], h) QQ := by
            intro h hW
            have hF := hK
            obtain rfl := Option.some.inj hF
            exact en_ret (by decide +kernel : u_at kl_283 75 = some (.ireturn, [0])) rfl (hQ _ hW)
          have hF := hX
          refine en_if_ge (by decide +kernel : u_at kl_283 46 = some (.ifCond .ge 8, [54])) (fun b12 => ?_) (fun b12 => ?_)
          · replace hF := i_pos b12 hF
            refine en_segs [(54, .iload_n 3, [])] (by decide +kernel) (y := (55, [some (.ref a0), some (.int p1), some (.int p2), some (.int p3), some (.int r9.1)], [.int p3], h)) rfl ?_
            refine en_if_ne (by decide +kernel : u_at kl_283 55 = some (.ifCond .ne 13, [68])) (fun b13 => ?_) (fun b13 => ?_)
            · replace hF := i_pos b13 hF
              refine en_segs [(58, .aload_n 0, [])] (by decide +kernel) (y := (59, [some (.ref a0), some (.int p1), some (.int p2), some (.int p3), some (.int r9.1)], [.ref a0], h)) rfl ?_
              refine en_get (by decide +kernel : u_at kl_283 59 = some (.getfield 76, [12, 35])) hW ha0 (by decide) rfl ?_
              refine en_segs [(62, .iload 4, [])] (by decide +kernel) (y := (64, [some (.ref a0), some (.int p1), some (.int p2), some (.int p3), some (.int r9.1)], [.int r9.1, .ref (aP d 12 35 a0)], h)) rfl ?_
              obtain ⟨v14, hv14, hF⟩ := ob_some hF
              refine en_iald (by decide +kernel : u_at kl_283 64 = some (.iaload, [])) hW ha0 rfl (by decide) hv14 ?_
              refine en_segs [(65, .goto 10, [75])] (by decide +kernel) (y := (75, [some (.ref a0), some (.int p1), some (.int p2), some (.int p3), some (.int r9.1)], [.int v14], h)) rfl ?_
              obtain rfl := Option.some.inj hF
              exact j11 _ hW
            · replace hF := i_neg b13 hF
              refine en_segs [(68, .aload_n 0, [])] (by decide +kernel) (y := (69, [some (.ref a0), some (.int p1), some (.int p2), some (.int p3), some (.int r9.1)], [.ref a0], h)) rfl ?_
              refine en_get (by decide +kernel : u_at kl_283 69 = some (.getfield 79, [12, 36])) hW ha0 (by decide) rfl ?_
              refine en_segs [(72, .iload 4, [])] (by decide +kernel) (y := (74, [some (.ref a0), some (.int p1), some (.int p2), some (.int p3), some (.int r9.1)], [.int r9.1, .ref (aP d 12 36 a0)], h)) rfl ?_
              obtain ⟨v15, hv15, hF⟩ := ob_some hF
              refine en_iald (by decide +kernel : u_at kl_283 74 = some (.iaload, [])) hW ha0 rfl (by decide) hv15 ?_
              obtain rfl := Option.some.inj hF
              exact j11 _ hW
          · replace hF := i_neg b12 hF
            refine en_segs [(49, .iload 4, []), (51, .goto 24, [75])] (by decide +kernel) (y := (75, [some (.ref a0), some (.int p1), some (.int p2), some (.int p3), some (.int r9.1)], [.int r9.1], h)) rfl ?_
            obtain rfl := Option.some.inj hF
            exact j11 _ hW
