def G_109 (c9 : Cl) (a0 : Nat) (lab : Nat) (xs : List Int32) (ys : List Int64) (zs : List Nat) : Option Int32 := match lab, xs, ys, zs with
  | 0, [x1, x2], [], [] =>
    if (cI c9 1 a0) ≤ x2 then
    some 1
    else
    ald (cA c9 2 a0) 36 x2 >>= fun v2 =>
    ald (cA c9 3 a0) 36 x2 >>= fun v3 =>
    if (x1 &&& ((1 <<< (v2 &&& 31)) ||| (1 <<< (v3 &&& 31)))) = 0 then
    some 0
    else
    G_109 c9 a0 1 [x1, x2, 0] [] []
  | 1, [x1, x2, x3], [], [] =>
    if x2 ≤ x3 then
    G_109 c9 a0 0 [x1, x2 + 1] [] []
    else
    ald (cA c9 2 a0) 36 x2 >>= fun v6 =>
    ald (cA c9 2 a0) 36 x3 >>= fun v7 =>
    if v6 = v7 then
    ald (cA c9 3 a0) 36 x2 >>= fun v9 =>
    ald (cA c9 3 a0) 36 x3 >>= fun v10 =>
    if v9 = v10 then
    G_109 c9 a0 1 [x1, x2, x3 + 1] [] []
    else
    G_109 c9 a0 2 [x1, x2, x3] [] []
    else
    G_109 c9 a0 2 [x1, x2, x3] [] []
  | 2, [x1, x2, x3], [], [] =>
    F_110 c9 a0 x1 x2 x3 >>= fun r12 =>
    if r12 = 0 then
    G_109 c9 a0 1 [x1, x2, x3 + 1] [] []
    else
    some 0
  | _, _, _, _ => none
partial_fixpoint
set_option maxRecDepth 100000 in
set_option maxHeartbeats 4000000 in
theorem g_109 {D : Nat} (hD : 2 ≤ D + 1) {c0 c1 c2 c3 c4 c5 c6 c7 c8 c9 c10 c11 c12 c13 : Cl} {d : Ad} {a0 : Nat} (ha0 : aK d a0 = (0, 9, 0)) : ∀ (lab : Nat) (xs : List Int32) (ys : List Int64) (zs : List Nat) (r : Int32), G_109 c9 a0 lab xs ys zs = some r →
    (∀ (x1 : Int32) (x2 : Int32), lab = 0 → xs = [x1, x2] → ys = [] → zs = [] → ∀ h : UH, HW (mkw c0 c1 c2 c3 c4 c5 c6 c7 c8 c9 c10 c11 c12 c13) d h → ∀ QQ : UR → Prop, QQ (some (.int r), h) → Ends (EX D) (u_at kl_109) (2, [some (.ref a0), some (.int x1), some (.int x2), none], [], h) QQ) ∧
    (∀ (x1 : Int32) (x2 : Int32) (x3 : Int32), lab = 1 → xs = [x1, x2, x3] → ys = [] → zs = [] → ∀ h : UH, HW (mkw c0 c1 c2 c3 c4 c5 c6 c7 c8 c9 c10 c11 c12 c13) d h → ∀ QQ : UR → Prop, QQ (some (.int r), h) → Ends (EX D) (u_at kl_109) (36, [some (.ref a0), some (.int x1), some (.int x2), some (.int x3)], [], h) QQ) ∧
    (∀ (x1 : Int32) (x2 : Int32) (x3 : Int32), lab = 2 → xs = [x1, x2, x3] → ys = [] → zs = [] → ∀ h : UH, HW (mkw c0 c1 c2 c3 c4 c5 c6 c7 c8 c9 c10 c11 c12 c13) d h → ∀ QQ : UR → Prop, QQ (some (.int r), h) → Ends (EX D) (u_at kl_109) (71, [some (.ref a0), some (.int x1), some (.int x2), some (.int x3)], [], h) QQ) := by
  refine G_109.partial_correctness _ _ (motive := fun lab xs ys zs r =>
    (∀ (x1 : Int32) (x2 : Int32), lab = 0 → xs = [x1, x2] → ys = [] → zs = [] → ∀ h : UH, HW (mkw c0 c1 c2 c3 c4 c5 c6 c7 c8 c9 c10 c11 c12 c13) d h → ∀ QQ : UR → Prop, QQ (some (.int r), h) → Ends (EX D) (u_at kl_109) (2, [some (.ref a0), some (.int x1), some (.int x2), none], [], h) QQ) ∧
    (∀ (x1 : Int32) (x2 : Int32) (x3 : Int32), lab = 1 → xs = [x1, x2, x3] → ys = [] → zs = [] → ∀ h : UH, HW (mkw c0 c1 c2 c3 c4 c5 c6 c7 c8 c9 c10 c11 c12 c13) d h → ∀ QQ : UR → Prop, QQ (some (.int r), h) → Ends (EX D) (u_at kl_109) (36, [some (.ref a0), some (.int x1), some (.int x2), some (.int x3)], [], h) QQ) ∧
    (∀ (x1 : Int32) (x2 : Int32) (x3 : Int32), lab = 2 → xs = [x1, x2, x3] → ys = [] → zs = [] → ∀ h : UH, HW (mkw c0 c1 c2 c3 c4 c5 c6 c7 c8 c9 c10 c11 c12 c13) d h → ∀ QQ : UR → Prop, QQ (some (.int r), h) → Ends (EX D) (u_at kl_109) (71, [some (.ref a0), some (.int x1), some (.int x2), some (.int x3)], [], h) QQ)) ?_
  intro G ih lab xs ys zs r hF
  refine ⟨?_, ?_, ?_⟩
  · intro x1 x2 e1 e2 e3 e4 h hW QQ hQ
    subst e1 e2 e3 e4
    refine en_segs [(2, .iload_n 2, []), (3, .aload_n 0, [])] (by decide +kernel) (y := (4, [some (.ref a0), some (.int x1), some (.int x2), none], [.ref a0, .int x2], h)) rfl ?_
    refine en_get (by decide +kernel : u_at kl_109 4 = some (.getfield 44, [9, 1])) hW ha0 (by decide) rfl ?_
    refine en_ic_ge (by decide +kernel : u_at kl_109 7 = some (.if_icmp .ge 88, [95])) (fun b1 => ?_) (fun b1 => ?_)
    · replace hF := i_pos b1 hF
      refine en_segs [(95, .iconst 1, [])] (by decide +kernel) (y := (96, [some (.ref a0), some (.int x1), some (.int x2), none], [.int 1], h)) rfl ?_
      obtain rfl := Option.some.inj hF
      exact en_ret (by decide +kernel : u_at kl_109 96 = some (.ireturn, [1])) rfl (hQ)
    · replace hF := i_neg b1 hF
      refine en_segs [(10, .iload_n 1, []), (11, .iconst 1, []), (12, .aload_n 0, [])] (by decide +kernel) (y := (13, [some (.ref a0), some (.int x1), some (.int x2), none], [.ref a0, .int 1, .int x1], h)) rfl ?_
      refine en_get (by decide +kernel : u_at kl_109 13 = some (.getfield 9, [9, 2])) hW ha0 (by decide) rfl ?_
      refine en_segs [(16, .iload_n 2, [])] (by decide +kernel) (y := (17, [some (.ref a0), some (.int x1), some (.int x2), none], [.int x2, .ref (aP d 9 2 a0), .int 1, .int x1], h)) rfl ?_
      obtain ⟨v2, hv2, hF⟩ := ob_some hF
      refine en_iald (by decide +kernel : u_at kl_109 17 = some (.iaload, [])) hW ha0 rfl (by decide) hv2 ?_
      refine en_segs [(18, .ishl, []), (19, .iconst 1, []), (20, .aload_n 0, [])] (by decide +kernel) (y := (21, [some (.ref a0), some (.int x1), some (.int x2), none], [.ref a0, .int 1, .int (1 <<< (v2 &&& 31)), .int x1], h)) rfl ?_
      refine en_get (by decide +kernel : u_at kl_109 21 = some (.getfield 15, [9, 3])) hW ha0 (by decide) rfl ?_
      refine en_segs [(24, .iload_n 2, [])] (by decide +kernel) (y := (25, [some (.ref a0), some (.int x1), some (.int x2), none], [.int x2, .ref (aP d 9 3 a0), .int 1, .int (1 <<< (v2 &&& 31)), .int x1], h)) rfl ?_
      obtain ⟨v3, hv3, hF⟩ := ob_some hF
      refine en_iald (by decide +kernel : u_at kl_109 25 = some (.iaload, [])) hW ha0 rfl (by decide) hv3 ?_
      refine en_segs [(26, .ishl, []), (27, .ior, []), (28, .iand, [])] (by decide +kernel) (y := (29, [some (.ref a0), some (.int x1), some (.int x2), none], [.int (x1 &&& ((1 <<< (v2 &&& 31)) ||| (1 <<< (v3 &&& 31))))], h)) rfl ?_
      refine en_if_ne (by decide +kernel : u_at kl_109 29 = some (.ifCond .ne 5, [34])) (fun b4 => ?_) (fun b4 => ?_)
      · replace hF := i_pos b4 hF
        refine en_segs [(32, .iconst 0, [])] (by decide +kernel) (y := (33, [some (.ref a0), some (.int x1), some (.int x2), none], [.int 0], h)) rfl ?_
        obtain rfl := Option.some.inj hF
        exact en_ret (by decide +kernel : u_at kl_109 33 = some (.ireturn, [1])) rfl (hQ)
      · replace hF := i_neg b4 hF
        refine en_segs [(34, .iconst 0, []), (35, .istore_n 3, [])] (by decide +kernel) (y := (36, [some (.ref a0), some (.int x1), some (.int x2), some (.int 0)], [], h)) rfl ?_
        exact (ih _ _ _ _ _ hF).2.1 _ _ _ rfl rfl rfl rfl  _ hW _ hQ
  · intro x1 x2 x3 e1 e2 e3 e4 h hW QQ hQ
    subst e1 e2 e3 e4
    refine en_segs [(36, .iload_n 3, []), (37, .iload_n 2, [])] (by decide +kernel) (y := (38, [some (.ref a0), some (.int x1), some (.int x2), some (.int x3)], [.int x2, .int x3], h)) rfl ?_
    refine en_ic_ge (by decide +kernel : u_at kl_109 38 = some (.if_icmp .ge 51, [89])) (fun b5 => ?_) (fun b5 => ?_)
    · replace hF := i_pos b5 hF
      refine en_segs [(89, .iinc 2 1, []), (92, .goto (-90), [2])] (by decide +kernel) (y := (2, [some (.ref a0), some (.int x1), some (.int (x2 + 1)), some (.int x3)], [], h)) rfl ?_
      refine en_fg (fg_k (fg_k (fg_k (fg_d fg_0)))) ?_
      exact (ih _ _ _ _ _ hF).1 _ _ rfl rfl rfl rfl  _ hW _ hQ
    · replace hF := i_neg b5 hF
      refine en_segs [(41, .aload_n 0, [])] (by decide +kernel) (y := (42, [some (.ref a0), some (.int x1), some (.int x2), some (.int x3)], [.ref a0], h)) rfl ?_
      refine en_get (by decide +kernel : u_at kl_109 42 = some (.getfield 9, [9, 2])) hW ha0 (by decide) rfl ?_
      refine en_segs [(45, .iload_n 2, [])] (by decide +kernel) (y := (46, [some (.ref a0), some (.int x1), some (.int x2), some (.int x3)], [.int x2, .ref (aP d 9 2 a0)], h)) rfl ?_
      obtain ⟨v6, hv6, hF⟩ := ob_some hF
      refine en_iald (by decide +kernel : u_at kl_109 46 = some (.iaload, [])) hW ha0 rfl (by decide) hv6 ?_
      refine en_segs [(47, .aload_n 0, [])] (by decide +kernel) (y := (48, [some (.ref a0), some (.int x1), some (.int x2), some (.int x3)], [.ref a0, .int v6], h)) rfl ?_
      refine en_get (by decide +kernel : u_at kl_109 48 = some (.getfield 9, [9, 2])) hW ha0 (by decide) rfl ?_
      refine en_segs [(51, .iload_n 3, [])] (by decide +kernel) (y := (52, [some (.ref a0), some (.int x1), some (.int x2), some (.int x3)], [.int x3, .ref (aP d 9 2 a0), .int v6], h)) rfl ?_
      obtain ⟨v7, hv7, hF⟩ := ob_some hF
      refine en_iald (by decide +kernel : u_at kl_109 52 = some (.iaload, [])) hW ha0 rfl (by decide) hv7 ?_
      refine en_ic_ne (by decide +kernel : u_at kl_109 53 = some (.if_icmp .ne 18, [71])) (fun b8 => ?_) (fun b8 => ?_)
      · replace hF := i_pos b8 hF
        refine en_segs [(56, .aload_n 0, [])] (by decide +kernel) (y := (57, [some (.ref a0), some (.int x1), some (.int x2), some (.int x3)], [.ref a0], h)) rfl ?_
        refine en_get (by decide +kernel : u_at kl_109 57 = some (.getfield 15, [9, 3])) hW ha0 (by decide) rfl ?_
        refine en_segs [(60, .iload_n 2, [])] (by decide +kernel) (y := (61, [some (.ref a0), some (.int x1), some (.int x2), some (.int x3)], [.int x2, .ref (aP d 9 3 a0)], h)) rfl ?_
        obtain ⟨v9, hv9, hF⟩ := ob_some hF
        refine en_iald (by decide +kernel : u_at kl_109 61 = some (.iaload, [])) hW ha0 rfl (by decide) hv9 ?_
        refine en_segs [(62, .aload_n 0, [])] (by decide +kernel) (y := (63, [some (.ref a0), some (.int x1), some (.int x2), some (.int x3)], [.ref a0, .int v9], h)) rfl ?_
        refine en_get (by decide +kernel : u_at kl_109 63 = some (.getfield 15, [9, 3])) hW ha0 (by decide) rfl ?_
        refine en_segs [(66, .iload_n 3, [])] (by decide +kernel) (y := (67, [some (.ref a0), some (.int x1), some (.int x2), some (.int x3)], [.int x3, .ref (aP d 9 3 a0), .int v9], h)) rfl ?_
        obtain ⟨v10, hv10, hF⟩ := ob_some hF
        refine en_iald (by decide +kernel : u_at kl_109 67 = some (.iaload, [])) hW ha0 rfl (by decide) hv10 ?_
        refine en_ic_eq (by decide +kernel : u_at kl_109 68 = some (.if_icmp .eq 15, [83])) (fun b11 => ?_) (fun b11 => ?_)
        · replace hF := i_pos b11 hF
          refine en_segs [(83, .iinc 3 1, []), (86, .goto (-50), [36])] (by decide +kernel) (y := (36, [some (.ref a0), some (.int x1), some (.int x2), some (.int (x3 + 1))], [], h)) rfl ?_
          exact (ih _ _ _ _ _ hF).2.1 _ _ _ rfl rfl rfl rfl  _ hW _ hQ
        · replace hF := i_neg b11 hF
          exact (ih _ _ _ _ _ hF).2.2 _ _ _ rfl rfl rfl rfl  _ hW _ hQ
      · replace hF := i_neg b8 hF
        exact (ih _ _ _ _ _ hF).2.2 _ _ _ rfl rfl rfl rfl  _ hW _ hQ
  · intro x1 x2 x3 e1 e2 e3 e4 h hW QQ hQ
    subst e1 e2 e3 e4
    refine en_segs [(71, .aload_n 0, []), (72, .iload_n 1, []), (73, .iload_n 2, []), (74, .iload_n 3, [])] (by decide +kernel) (y := (75, [some (.ref a0), some (.int x1), some (.int x2), some (.int x3)], [.int x3, .int x2, .int x1, .ref a0], h)) rfl ?_
    obtain ⟨r12, hr12, hF⟩ := ob_some hF
    refine en_vi (r := []) (by decide +kernel : u_at kl_109 75 = some (.invokevirtual 62, [110, 3, 9])) hW ha0 rfl rfl (Nat.le_of_ble_eq_true rfl) (e_110 (D := D) (by omega) hW ha0 hr12) (fun h' q => ?_)
    subst q
    refine en_if_eq (by decide +kernel : u_at kl_109 78 = some (.ifCond .eq 5, [83])) (fun b13 => ?_) (fun b13 => ?_)
    · replace hF := i_pos b13 hF
      refine en_segs [(83, .iinc 3 1, []), (86, .goto (-50), [36])] (by decide +kernel) (y := (36, [some (.ref a0), some (.int x1), some (.int x2), some (.int (x3 + 1))], [], h)) rfl ?_
      exact (ih _ _ _ _ _ hF).2.1 _ _ _ rfl rfl rfl rfl  _ hW _ hQ
    · replace hF := i_neg b13 hF
      refine en_segs [(81, .iconst 0, [])] (by decide +kernel) (y := (82, [some (.ref a0), some (.int x1), some (.int x2), some (.int x3)], [.int 0], h)) rfl ?_
      obtain rfl := Option.some.inj hF
      exact en_ret (by decide +kernel : u_at kl_109 82 = some (.ireturn, [1])) rfl (hQ)
def F_109 (c9 : Cl) (a0 : Nat) (p1 : Int32) : Option Int32 :=
  G_109 c9 a0 0 [p1, 0] [] []
set_option maxRecDepth 100000 in
set_option maxHeartbeats 4000000 in
/-- HeadCounts$Watching.isTellingBy -/
theorem e_109 {D : Nat} {c0 c1 c2 c3 c4 c5 c6 c7 c8 c9 c10 c11 c12 c13 : Cl} {d : Ad} {h : UH} {a0 : Nat} {p1 : Int32} {r : Int32} (hD : 2 ≤ D) (hW : HW (mkw c0 c1 c2 c3 c4 c5 c6 c7 c8 c9 c10 c11 c12 c13) d h) (ha0 : aK d a0 = (0, 9, 0)) (hF : F_109 c9 a0 p1 = some r) : ∃ q, EX D 109 [.ref a0, .int p1] h q ∧ q.1 = some (.int r) ∧ h = q.2 := by
  obtain ⟨D, rfl⟩ : ∃ E, D = E + 1 := ⟨D - 1, by omega⟩
  unfold F_109 at hF
  refine ex_in (kl := kl_109) (nL := 4) rfl (by decide +kernel) (Nat.le_of_ble_eq_true rfl) ?_
  obtain ⟨QQ, hQQ⟩ : ∃ QQ : UR → Prop, QQ = (fun q : UR => q.1 = some (.int r) ∧ h = q.2) := ⟨_, rfl⟩
  rw [← hQQ]
  have hQ : QQ (some (.int r), h) := by rw [hQQ]; exact ⟨rfl, rfl⟩
  clear hQQ
  show Ends (EX D) (u_at kl_109) (0, [some (.ref a0), some (.int p1), none, none], [], h) QQ
  refine en_segs [(0, .iconst 0, []), (1, .istore_n 2, [])] (by decide +kernel) (y := (2, [some (.ref a0), some (.int p1), some (.int 0), none], [], h)) rfl ?_
  exact (g_109 (D := D) hD ha0 _ _ _ _ _ hF).1 _ _ rfl rfl rfl rfl  _ hW _ hQ
def F_300 (p1 : Int32) : Option Int32 :=
  some ((((((((p1 - ((iush p1 1) &&& 1431655765)) &&& 858993459) + ((iush (p1 - ((iush p1 1) &&& 1431655765)) 2) &&& 858993459)) + (iush (((p1 - ((iush p1 1) &&& 1431655765)) &&& 858993459) + ((iush (p1 - ((iush p1 1) &&& 1431655765)) 2) &&& 858993459)) 4)) &&& 252645135) + (iush (((((p1 - ((iush p1 1) &&& 1431655765)) &&& 858993459) + ((iush (p1 - ((iush p1 1) &&& 1431655765)) 2) &&& 858993459)) + (iush (((p1 - ((iush p1 1) &&& 1431655765)) &&& 858993459) + ((iush (p1 - ((iush p1 1) &&& 1431655765)) 2) &&& 858993459)) 4)) &&& 252645135) 8)) + (iush ((((((p1 - ((iush p1 1) &&& 1431655765)) &&& 858993459) + ((iush (p1 - ((iush p1 1) &&& 1431655765)) 2) &&& 858993459)) + (iush (((p1 - ((iush p1 1) &&& 1431655765)) &&& 858993459) + ((iush (p1 - ((iush p1 1) &&& 1431655765)) 2) &&& 858993459)) 4)) &&& 252645135) + (iush (((((p1 - ((iush p1 1) &&& 1431655765)) &&& 858993459) + ((iush (p1 - ((iush p1 1) &&& 1431655765)) 2) &&& 858993459)) + (iush (((p1 - ((iush p1 1) &&& 1431655765)) &&& 858993459) + ((iush (p1 - ((iush p1 1) &&& 1431655765)) 2) &&& 858993459)) 4)) &&& 252645135) 8)) 16)) &&& 63)
set_option maxRecDepth 100000 in
set_option maxHeartbeats 4000000 in
/-- java/lang/Integer.bitCount -/
theorem e_300 {D : Nat} {c0 c1 c2 c3 c4 c5 c6 c7 c8 c9 c10 c11 c12 c13 : Cl} {d : Ad} {h : UH} {p1 : Int32} {r : Int32} (hD : 1 ≤ D) (hW : HW (mkw c0 c1 c2 c3 c4 c5 c6 c7 c8 c9 c10 c11 c12 c13) d h) (hF : F_300 p1 = some r) : ∃ q, EX D 300 [.int p1] h q ∧ q.1 = some (.int r) ∧ h = q.2 := by
  obtain ⟨D, rfl⟩ : ∃ E, D = E + 1 := ⟨D - 1, by omega⟩
  unfold F_300 at hF
  refine ex_in (kl := kl_300) (nL := 1) rfl (by decide +kernel) (Nat.le_of_ble_eq_true rfl) ?_
  obtain ⟨QQ, hQQ⟩ : ∃ QQ : UR → Prop, QQ = (fun q : UR => q.1 = some (.int r) ∧ h = q.2) := ⟨_, rfl⟩
  rw [← hQQ]
  have hQ : QQ (some (.int r), h) := by rw [hQQ]; exact ⟨rfl, rfl⟩
  clear hQQ
  show Ends (EX D) (u_at kl_300) (0, [some (.int p1)], [], h) QQ
  refine en_segs [(0, .iload_n 0, []), (1, .iload_n 0, []), (2, .iconst 1, []), (3, .iushr, []), (4, .ldc_w 265, [1431655765]), (7, .iand, []), (8, .isub, []), (9, .istore_n 0, []), (10, .iload_n 0, []), (11, .ldc_w 266, [858993459]), (14, .iand, []), (15, .iload_n 0, []), (16, .iconst 2, []), (17, .iushr, []), (18, .ldc_w 266, [858993459]), (21, .iand, []), (22, .iadd, []), (23, .istore_n 0, []), (24, .iload_n 0, []), (25, .iload_n 0, []), (26, .iconst 4, []), (27, .iushr, []), (28, .iadd, []), (29, .ldc_w 267, [252645135]), (32, .iand, []), (33, .istore_n 0, []), (34, .iload_n 0, []), (35, .iload_n 0, []), (36, .bipush 8, []), (38, .iushr, []), (39, .iadd, []), (40, .istore_n 0, []), (41, .iload_n 0, []), (42, .iload_n 0, []), (43, .bipush 16, []), (45, .iushr, []), (46, .iadd, []), (47, .istore_n 0, []), (48, .iload_n 0, []), (49, .bipush 63, []), (51, .iand, [])] (by decide +kernel) (y := (52, [some (.int (((((((p1 - ((iush p1 1) &&& 1431655765)) &&& 858993459) + ((iush (p1 - ((iush p1 1) &&& 1431655765)) 2) &&& 858993459)) + (iush (((p1 - ((iush p1 1) &&& 1431655765)) &&& 858993459) + ((iush (p1 - ((iush p1 1) &&& 1431655765)) 2) &&& 858993459)) 4)) &&& 252645135) + (iush (((((p1 - ((iush p1 1) &&& 1431655765)) &&& 858993459) + ((iush (p1 - ((iush p1 1) &&& 1431655765)) 2) &&& 858993459)) + (iush (((p1 - ((iush p1 1) &&& 1431655765)) &&& 858993459) + ((iush (p1 - ((iush p1 1) &&& 1431655765)) 2) &&& 858993459)) 4)) &&& 252645135) 8)) + (iush ((((((p1 - ((iush p1 1) &&& 1431655765)) &&& 858993459) + ((iush (p1 - ((iush p1 1) &&& 1431655765)) 2) &&& 858993459)) + (iush (((p1 - ((iush p1 1) &&& 1431655765)) &&& 858993459) + ((iush (p1 - ((iush p1 1) &&& 1431655765)) 2) &&& 858993459)) 4)) &&& 252645135) + (iush (((((p1 - ((iush p1 1) &&& 1431655765)) &&& 858993459) + ((iush (p1 - ((iush p1 1) &&& 1431655765)) 2) &&& 858993459)) + (iush (((p1 - ((iush p1 1) &&& 1431655765)) &&& 858993459) + ((iush (p1 - ((iush p1 1) &&& 1431655765)) 2) &&& 858993459)) 4)) &&& 252645135) 8)) 16)))], [.int ((((((((p1 - ((iush p1 1) &&& 1431655765)) &&& 858993459) + ((iush (p1 - ((iush p1 1) &&& 1431655765)) 2) &&& 858993459)) + (iush (((p1 - ((iush p1 1) &&& 1431655765)) &&& 858993459) + ((iush (p1 - ((iush p1 1) &&& 1431655765)) 2) &&& 858993459)) 4)) &&& 252645135) + (iush (((((p1 - ((iush p1 1) &&& 1431655765)) &&& 858993459) + ((iush (p1 - ((iush p1 1) &&& 1431655765)) 2) &&& 858993459)) + (iush (((p1 - ((iush p1 1) &&& 1431655765)) &&& 858993459) + ((iush (p1 - ((iush p1 1) &&& 1431655765)) 2) &&& 858993459)) 4)) &&& 252645135) 8)) + (iush ((((((p1 - ((iush p1 1) &&& 1431655765)) &&& 858993459) + ((iush (p1 - ((iush p1 1) &&& 1431655765)) 2) &&& 858993459)) + (iush (((p1 - ((iush p1 1) &&& 1431655765)) &&& 858993459) + ((iush (p1 - ((iush p1 1) &&& 1431655765)) 2) &&& 858993459)) 4)) &&& 252645135) + (iush (((((p1 - ((iush p1 1) &&& 1431655765)) &&& 858993459) + ((iush (p1 - ((iush p1 1) &&& 1431655765)) 2) &&& 858993459)) + (iush (((p1 - ((iush p1 1) &&& 1431655765)) &&& 858993459) + ((iush (p1 - ((iush p1 1) &&& 1431655765)) 2) &&& 858993459)) 4)) &&& 252645135) 8)) 16)) &&& 63)], h)) rfl ?_
  obtain rfl := Option.some.inj hF
  exact en_ret (by decide +kernel : u_at kl_300 52 = some (.ireturn, [0])) rfl (hQ)
def G_111 (c6 : Cl) (c9 : Cl) (a0 : Nat) (lab : Nat) (xs : List Int32) (ys : List Int64) (zs : List Nat) : Option Int32 := match lab, xs, ys, zs with
  | 0, [x1], [], [] =>
    if (cI c6 0 (cR c9 0 a0)) < x1 then
    some (-1)
    else
    G_111 c6 c9 a0 1 [x1, 0] [] []
  | 1, [x1, x2], [], [] =>
    if (1 <<< ((cI c6 0 (cR c9 0 a0)) &&& 31)) ≤ x2 then
    G_111 c6 c9 a0 0 [x1 + 1] [] []
    else
    F_300 x2 >>= fun r5 =>
    if r5 = x1 then
    F_109 c9 a0 x2 >>= fun r7 =>
    if r7 = 0 then
    G_111 c6 c9 a0 1 [x1, x2 + 1] [] []
    else
    some x2
    else
    G_111 c6 c9 a0 1 [x1, x2 + 1] [] []
  | _, _, _, _ => none
partial_fixpoint
set_option maxRecDepth 100000 in
set_option maxHeartbeats 4000000 in
theorem g_111 {D : Nat} (hD : 3 ≤ D + 1) {c0 c1 c2 c3 c4 c5 c6 c7 c8 c9 c10 c11 c12 c13 : Cl} {d : Ad} {a0 : Nat} (ha0 : aK d a0 = (0, 9, 0)) : ∀ (lab : Nat) (xs : List Int32) (ys : List Int64) (zs : List Nat) (r : Int32), G_111 c6 c9 a0 lab xs ys zs = some r →
    (∀ (x1 : Int32), lab = 0 → xs = [x1] → ys = [] → zs = [] → ∀ h : UH, HW (mkw c0 c1 c2 c3 c4 c5 c6 c7 c8 c9 c10 c11 c12 c13) d h → ∀ QQ : UR → Prop, QQ (some (.int r), h) → Ends (EX D) (u_at kl_111) (2, [some (.ref a0), some (.int x1), none], [], h) QQ) ∧
    (∀ (x1 : Int32) (x2 : Int32), lab = 1 → xs = [x1, x2] → ys = [] → zs = [] → ∀ h : UH, HW (mkw c0 c1 c2 c3 c4 c5 c6 c7 c8 c9 c10 c11 c12 c13) d h → ∀ QQ : UR → Prop, QQ (some (.int r), h) → Ends (EX D) (u_at kl_111) (15, [some (.ref a0), some (.int x1), some (.int x2)], [], h) QQ) := by
  refine G_111.partial_correctness _ _ _ (motive := fun lab xs ys zs r =>
    (∀ (x1 : Int32), lab = 0 → xs = [x1] → ys = [] → zs = [] → ∀ h : UH, HW (mkw c0 c1 c2 c3 c4 c5 c6 c7 c8 c9 c10 c11 c12 c13) d h → ∀ QQ : UR → Prop, QQ (some (.int r), h) → Ends (EX D) (u_at kl_111) (2, [some (.ref a0), some (.int x1), none], [], h) QQ) ∧
    (∀ (x1 : Int32) (x2 : Int32), lab = 1 → xs = [x1, x2] → ys = [] → zs = [] → ∀ h : UH, HW (mkw c0 c1 c2 c3 c4 c5 c6 c7 c8 c9 c10 c11 c12 c13) d h → ∀ QQ : UR → Prop, QQ (some (.int r), h) → Ends (EX D) (u_at kl_111) (15, [some (.ref a0), some (.int x1), some (.int x2)], [], h) QQ)) ?_
  intro G ih lab xs ys zs r hF
  refine ⟨?_, ?_⟩
  · intro x1 e1 e2 e3 e4 h hW QQ hQ
    subst e1 e2 e3 e4
    refine en_segs [(2, .iload_n 1, []), (3, .aload_n 0, [])] (by decide +kernel) (y := (4, [some (.ref a0), some (.int x1), none], [.ref a0, .int x1], h)) rfl ?_
    have k1 : aK d (cR c9 0 a0) = (0, 6, 0) := wf_obj hW ha0 (by decide) rfl
    refine en_get (by decide +kernel : u_at kl_111 4 = some (.getfield 34, [9, 0])) hW ha0 (by decide) rfl ?_
    refine en_get (by decide +kernel : u_at kl_111 7 = some (.getfield 51, [6, 0])) hW k1 (by decide) rfl ?_
    refine en_ic_gt (by decide +kernel : u_at kl_111 10 = some (.if_icmp .gt 48, [58])) (fun b2 => ?_) (fun b2 => ?_)
    · replace hF := i_pos b2 hF
      refine en_segs [(58, .iconst (-1), [])] (by decide +kernel) (y := (59, [some (.ref a0), some (.int x1), none], [.int (-1)], h)) rfl ?_
      obtain rfl := Option.some.inj hF
      exact en_ret (by decide +kernel : u_at kl_111 59 = some (.ireturn, [0])) rfl (hQ)
    · replace hF := i_neg b2 hF
      refine en_segs [(13, .iconst 0, []), (14, .istore_n 2, [])] (by decide +kernel) (y := (15, [some (.ref a0), some (.int x1), some (.int 0)], [], h)) rfl ?_
      exact (ih _ _ _ _ _ hF).2 _ _ rfl rfl rfl rfl  _ hW _ hQ
  · intro x1 x2 e1 e2 e3 e4 h hW QQ hQ
    subst e1 e2 e3 e4
    refine en_segs [(15, .iload_n 2, []), (16, .iconst 1, []), (17, .aload_n 0, [])] (by decide +kernel) (y := (18, [some (.ref a0), some (.int x1), some (.int x2)], [.ref a0, .int 1, .int x2], h)) rfl ?_
    have k3 : aK d (cR c9 0 a0) = (0, 6, 0) := wf_obj hW ha0 (by decide) rfl
    refine en_get (by decide +kernel : u_at kl_111 18 = some (.getfield 34, [9, 0])) hW ha0 (by decide) rfl ?_
    refine en_get (by decide +kernel : u_at kl_111 21 = some (.getfield 51, [6, 0])) hW k3 (by decide) rfl ?_
    refine en_segs [(24, .ishl, [])] (by decide +kernel) (y := (25, [some (.ref a0), some (.int x1), some (.int x2)], [.int (1 <<< ((cI c6 0 (cR c9 0 a0)) &&& 31)), .int x2], h)) rfl ?_
    refine en_ic_ge (by decide +kernel : u_at kl_111 25 = some (.if_icmp .ge 27, [52])) (fun b4 => ?_) (fun b4 => ?_)
    · replace hF := i_pos b4 hF
      refine en_segs [(52, .iinc 1 1, []), (55, .goto (-53), [2])] (by decide +kernel) (y := (2, [some (.ref a0), some (.int (x1 + 1)), some (.int x2)], [], h)) rfl ?_
      refine en_fg (fg_k (fg_k (fg_d fg_0))) ?_
      exact (ih _ _ _ _ _ hF).1 _ rfl rfl rfl rfl  _ hW _ hQ
    · replace hF := i_neg b4 hF
      refine en_segs [(28, .iload_n 2, [])] (by decide +kernel) (y := (29, [some (.ref a0), some (.int x1), some (.int x2)], [.int x2], h)) rfl ?_
      obtain ⟨r5, hr5, hF⟩ := ob_some hF
      refine en_si (r := []) (by decide +kernel : u_at kl_111 29 = some (.invokestatic 66, [300, 1])) rfl rfl (Nat.le_of_ble_eq_true rfl) (e_300 (D := D) (by omega) hW hr5) (fun h' q => ?_)
      subst q
      refine en_segs [(32, .iload_n 1, [])] (by decide +kernel) (y := (33, [some (.ref a0), some (.int x1), some (.int x2)], [.int x1, .int r5], h)) rfl ?_
      refine en_ic_ne (by decide +kernel : u_at kl_111 33 = some (.if_icmp .ne 13, [46])) (fun b6 => ?_) (fun b6 => ?_)
      · replace hF := i_pos b6 hF
        refine en_segs [(36, .aload_n 0, []), (37, .iload_n 2, [])] (by decide +kernel) (y := (38, [some (.ref a0), some (.int x1), some (.int x2)], [.int x2, .ref a0], h)) rfl ?_
        obtain ⟨r7, hr7, hF⟩ := ob_some hF
        refine en_vi (r := []) (by decide +kernel : u_at kl_111 38 = some (.invokevirtual 72, [109, 1, 9])) hW ha0 rfl rfl (Nat.le_of_ble_eq_true rfl) (e_109 (D := D) (by omega) hW ha0 hr7) (fun h' q => ?_)
        subst q
        refine en_if_eq (by decide +kernel : u_at kl_111 41 = some (.ifCond .eq 5, [46])) (fun b8 => ?_) (fun b8 => ?_)
        · replace hF := i_pos b8 hF
          refine en_segs [(46, .iinc 2 1, []), (49, .goto (-34), [15])] (by decide +kernel) (y := (15, [some (.ref a0), some (.int x1), some (.int (x2 + 1))], [], h)) rfl ?_
          exact (ih _ _ _ _ _ hF).2 _ _ rfl rfl rfl rfl  _ hW _ hQ
        · replace hF := i_neg b8 hF
          refine en_segs [(44, .iload_n 2, [])] (by decide +kernel) (y := (45, [some (.ref a0), some (.int x1), some (.int x2)], [.int x2], h)) rfl ?_
          obtain rfl := Option.some.inj hF
          exact en_ret (by decide +kernel : u_at kl_111 45 = some (.ireturn, [0])) rfl (hQ)
      · replace hF := i_neg b6 hF
        refine en_segs [(46, .iinc 2 1, []), (49, .goto (-34), [15])] (by decide +kernel) (y := (15, [some (.ref a0), some (.int x1), some (.int (x2 + 1))], [], h)) rfl ?_
        exact (ih _ _ _ _ _ hF).2 _ _ rfl rfl rfl rfl  _ hW _ hQ
def F_111 (c6 : Cl) (c9 : Cl) (a0 : Nat) : Option Int32 :=
  G_111 c6 c9 a0 0 [0] [] []
set_option maxRecDepth 100000 in
set_option maxHeartbeats 4000000 in
/-- HeadCounts$Watching.fewestRooms -/
theorem e_111 {D : Nat} {c0 c1 c2 c3 c4 c5 c6 c7 c8 c9 c10 c11 c12 c13 : Cl} {d : Ad} {h : UH} {a0 : Nat} {r : Int32} (hD : 3 ≤ D) (hW : HW (mkw c0 c1 c2 c3 c4 c5 c6 c7 c8 c9 c10 c11 c12 c13) d h) (ha0 : aK d a0 = (0, 9, 0)) (hF : F_111 c6 c9 a0 = some r) : ∃ q, EX D 111 [.ref a0] h q ∧ q.1 = some (.int r) ∧ h = q.2 := by
  obtain ⟨D, rfl⟩ : ∃ E, D = E + 1 := ⟨D - 1, by omega⟩
  unfold F_111 at hF
  refine ex_in (kl := kl_111) (nL := 3) rfl (by decide +kernel) (Nat.le_of_ble_eq_true rfl) ?_
  obtain ⟨QQ, hQQ⟩ : ∃ QQ : UR → Prop, QQ = (fun q : UR => q.1 = some (.int r) ∧ h = q.2) := ⟨_, rfl⟩
  rw [← hQQ]
  have hQ : QQ (some (.int r), h) := by rw [hQQ]; exact ⟨rfl, rfl⟩
  clear hQQ
  show Ends (EX D) (u_at kl_111) (0, [some (.ref a0), none, none], [], h) QQ
  refine en_segs [(0, .iconst 0, []), (1, .istore_n 1, [])] (by decide +kernel) (y := (2, [some (.ref a0), some (.int 0), none], [], h)) rfl ?_
  exact (g_111 (D := D) hD ha0 _ _ _ _ _ hF).1 _ rfl rfl rfl rfl  _ hW _ hQ
def G_112 (c1 : Cl) (c6 : Cl) (c8 : Cl) (c9 : Cl) (a0 : Nat) (a1 : Nat) (lab : Nat) (xs : List Int32) (ys : List Int64) (zs : List Nat) : Option (Int32 × Cl) := match lab, xs, ys, zs with
  | 0, [x2, x3, x4], [], [] =>
    if (cI c6 1 (cR c9 0 a0)) ≤ x4 then
    some (x3, c6)
    else
    G_112 c1 c6 c8 c9 a0 a1 1 [x2, x3, x4, 0] [] []
  | 1, [x2, x3, x4, x5], [], [] =>
    if x4 ≤ x5 then
    G_112 c1 c6 c8 c9 a0 a1 0 [x2, x3, x4 + 1] [] []
    else
    ald (cA c6 5 (cR c9 0 a0)) 6 x4 >>= fun v7 =>
    ald (cA c6 5 (cR c9 0 a0)) 6 x5 >>= fun v8 =>
    ((if v7 = v8 then
    some 0
    else
    ald (cA c6 10 (cR c9 0 a0)) 6 x4 >>= fun v20 =>
    ldl (cB c6 9 (cR c9 0 a0)) 6 v20 >>= fun v21 =>
    ald (cA c6 10 (cR c9 0 a0)) 6 x5 >>= fun v22 =>
    ldl (cB c6 9 (cR c9 0 a0)) 6 v22 >>= fun v23 =>
    if (lg_cmp v21 v23) = 0 then
    some 0
    else
    some 1) : Option (Int32)) >>= fun (t9 : Int32) =>
    ald (cA c6 10 (cR c9 0 a0)) 6 x4 >>= fun v11 =>
    ald (cA c6 10 (cR c9 0 a0)) 6 x5 >>= fun v12 =>
    F_59 c6 (cR c9 0 a0) v11 v12 >>= fun r13 =>
    ((if r13 = 0 then
    some x3
    else
    if x2 = 0 then
    some (x3 + 1)
    else
    if t9 = 0 then
    some (x3 + 1)
    else
    some x3) : Option (Int32)) >>= fun (t14 : Int32) =>
    G_112 c1 c6 c8 c9 a0 a1 1 [x2, t14, x4, x5 + 1] [] []
  | _, _, _, _ => none
partial_fixpoint
set_option maxRecDepth 100000 in
set_option maxHeartbeats 4000000 in
theorem g_112 {D : Nat} (hD : 4 ≤ D + 1) {c0 c1 c2 c3 c4 c5 c6 c7 c8 c9 c10 c11 c12 c13 : Cl} {d : Ad} {a0 : Nat} {a1 : Nat} (ha0 : aK d a0 = (0, 9, 0)) (ha1 : aK d a1 = (0, 8, 0)) : ∀ (lab : Nat) (xs : List Int32) (ys : List Int64) (zs : List Nat) (r : (Int32 × Cl)), G_112 c1 c6 c8 c9 a0 a1 lab xs ys zs = some r →
    (∀ (x2 : Int32) (x3 : Int32) (x4 : Int32), lab = 0 → xs = [x2, x3, x4] → ys = [] → zs = [] → ∀ h : UH, HW (mkw c0 c1 c2 c3 c4 c5 c6 c7 c8 c9 c10 c11 c12 c13) d h → ∀ QQ : UR → Prop, (∀ h' : UH, HW (mkw c0 c1 c2 c3 c4 c5 r.2 c7 c8 c9 c10 c11 c12 c13) d h' → QQ (some (.int r.1), h')) → Ends (EX D) (u_at kl_112) (13, [some (.ref a0), none, some (.int x2), some (.int x3), some (.int x4), none, none], [], h) QQ) ∧
    (∀ (x2 : Int32) (x3 : Int32) (x4 : Int32) (x5 : Int32), lab = 1 → xs = [x2, x3, x4, x5] → ys = [] → zs = [] → ∀ h : UH, HW (mkw c0 c1 c2 c3 c4 c5 c6 c7 c8 c9 c10 c11 c12 c13) d h → ∀ QQ : UR → Prop, (∀ h' : UH, HW (mkw c0 c1 c2 c3 c4 c5 r.2 c7 c8 c9 c10 c11 c12 c13) d h' → QQ (some (.int r.1), h')) → Ends (EX D) (u_at kl_112) (28, [some (.ref a0), none, some (.int x2), some (.int x3), some (.int x4), some (.int x5), none], [], h) QQ) := by
  refine G_112.partial_correctness _ _ _ _ _ _ (motive := fun lab xs ys zs r =>
    (∀ (x2 : Int32) (x3 : Int32) (x4 : Int32), lab = 0 → xs = [x2, x3, x4] → ys = [] → zs = [] → ∀ h : UH, HW (mkw c0 c1 c2 c3 c4 c5 c6 c7 c8 c9 c10 c11 c12 c13) d h → ∀ QQ : UR → Prop, (∀ h' : UH, HW (mkw c0 c1 c2 c3 c4 c5 r.2 c7 c8 c9 c10 c11 c12 c13) d h' → QQ (some (.int r.1), h')) → Ends (EX D) (u_at kl_112) (13, [some (.ref a0), none, some (.int x2), some (.int x3), some (.int x4), none, none], [], h) QQ) ∧
    (∀ (x2 : Int32) (x3 : Int32) (x4 : Int32) (x5 : Int32), lab = 1 → xs = [x2, x3, x4, x5] → ys = [] → zs = [] → ∀ h : UH, HW (mkw c0 c1 c2 c3 c4 c5 c6 c7 c8 c9 c10 c11 c12 c13) d h → ∀ QQ : UR → Prop, (∀ h' : UH, HW (mkw c0 c1 c2 c3 c4 c5 r.2 c7 c8 c9 c10 c11 c12 c13) d h' → QQ (some (.int r.1), h')) → Ends (EX D) (u_at kl_112) (28, [some (.ref a0), none, some (.int x2), some (.int x3), some (.int x4), some (.int x5), none], [], h) QQ)) ?_
  intro G ih lab xs ys zs r hF
  refine ⟨?_, ?_⟩
  · intro x2 x3 x4 e1 e2 e3 e4 h hW QQ hQ
    subst e1 e2 e3 e4
    refine en_segs [(13, .iload 4, []), (15, .aload_n 0, [])] (by decide +kernel) (y := (16, [some (.ref a0), none, some (.int x2), some (.int x3), some (.int x4), none, none], [.ref a0, .int x4], h)) rfl ?_
    have k3 : aK d (cR c9 0 a0) = (0, 6, 0) := wf_obj hW ha0 (by decide) rfl
    refine en_get (by decide +kernel : u_at kl_112 16 = some (.getfield 34, [9, 0])) hW ha0 (by decide) rfl ?_
    refine en_get (by decide +kernel : u_at kl_112 19 = some (.getfield 48, [6, 1])) hW k3 (by decide) rfl ?_
    refine en_ic_ge (by decide +kernel : u_at kl_112 22 = some (.if_icmp .ge 137, [159])) (fun b4 => ?_) (fun b4 => ?_)
    · replace hF := i_pos b4 hF
      refine en_segs [(159, .iload_n 3, [])] (by decide +kernel) (y := (160, [some (.ref a0), none, some (.int x2), some (.int x3), some (.int x4), none, none], [.int x3], h)) rfl ?_
      obtain rfl := Option.some.inj hF
      exact en_ret (by decide +kernel : u_at kl_112 160 = some (.ireturn, [0])) rfl (hQ _ hW)
    · replace hF := i_neg b4 hF
      refine en_segs [(25, .iconst 0, []), (26, .istore 5, [])] (by decide +kernel) (y := (28, [some (.ref a0), none, some (.int x2), some (.int x3), some (.int x4), some (.int 0), none], [], h)) rfl ?_
      exact (ih _ _ _ _ _ hF).2 _ _ _ _ rfl rfl rfl rfl  _ hW _ hQ
  · intro x2 x3 x4 x5 e1 e2 e3 e4 h hW QQ hQ
    subst e1 e2 e3 e4
    refine en_segs [(28, .iload 5, []), (30, .iload 4, [])] (by decide +kernel) (y := (32, [some (.ref a0), none, some (.int x2), some (.int x3), some (.int x4), some (.int x5), none], [.int x4, .int x5], h)) rfl ?_
    refine en_ic_ge (by decide +kernel : u_at kl_112 32 = some (.if_icmp .ge 121, [153])) (fun b5 => ?_) (fun b5 => ?_)
    · replace hF := i_pos b5 hF
      refine en_segs [(153, .iinc 4 1, []), (156, .goto (-143), [13])] (by decide +kernel) (y := (13, [some (.ref a0), none, some (.int x2), some (.int x3), some (.int (x4 + 1)), some (.int x5), none], [], h)) rfl ?_
      refine en_fg (fg_k (fg_k (fg_k (fg_k (fg_k (fg_d (fg_k fg_0))))))) ?_
      exact (ih _ _ _ _ _ hF).1 _ _ _ rfl rfl rfl rfl  _ hW _ hQ
    · replace hF := i_neg b5 hF
      refine en_segs [(35, .aload_n 0, [])] (by decide +kernel) (y := (36, [some (.ref a0), none, some (.int x2), some (.int x3), some (.int x4), some (.int x5), none], [.ref a0], h)) rfl ?_
      have k6 : aK d (cR c9 0 a0) = (0, 6, 0) := wf_obj hW ha0 (by decide) rfl
      refine en_get (by decide +kernel : u_at kl_112 36 = some (.getfield 34, [9, 0])) hW ha0 (by decide) rfl ?_
      refine en_get (by decide +kernel : u_at kl_112 39 = some (.getfield 61, [6, 5])) hW k6 (by decide) rfl ?_
      refine en_segs [(42, .iload 4, [])] (by decide +kernel) (y := (44, [some (.ref a0), none, some (.int x2), some (.int x3), some (.int x4), some (.int x5), none], [.int x4, .ref (aP d 6 5 (cR c9 0 a0))], h)) rfl ?_
      obtain ⟨v7, hv7, hF⟩ := ob_some hF
      refine en_iald (by decide +kernel : u_at kl_112 44 = some (.iaload, [])) hW k6 rfl (by decide) hv7 ?_
      refine en_segs [(45, .aload_n 0, [])] (by decide +kernel) (y := (46, [some (.ref a0), none, some (.int x2), some (.int x3), some (.int x4), some (.int x5), none], [.ref a0, .int v7], h)) rfl ?_
      refine en_get (by decide +kernel : u_at kl_112 46 = some (.getfield 34, [9, 0])) hW ha0 (by decide) rfl ?_
      refine en_get (by decide +kernel : u_at kl_112 49 = some (.getfield 61, [6, 5])) hW k6 (by decide) rfl ?_
      refine en_segs [(52, .iload 5, [])] (by decide +kernel) (y := (54, [some (.ref a0), none, some (.int x2), some (.int x3), some (.int x4), some (.int x5), none], [.int x5, .ref (aP d 6 5 (cR c9 0 a0)), .int v7], h)) rfl ?_
      obtain ⟨v8, hv8, hF⟩ := ob_some hF
      refine en_iald (by decide +kernel : u_at kl_112 54 = some (.iaload, [])) hW k6 rfl (by decide) hv8 ?_
      obtain ⟨t9, hX, hK⟩ := ob_some hF
      have j10 : ∀ h : UH, HW (mkw c0 c1 c2 c3 c4 c5 c6 c7 c8 c9 c10 c11 c12 c13) d h → Ends (EX D) (u_at kl_112) (103, [some (.ref a0), none, some (.int x2), some (.int x3), some (.int x4), some (.int x5), none], [.int t9], h) QQ := by
        intro h hW
        have hF := hK
        refine en_segs [(103, .istore 6, []), (105, .aload_n 0, [])] (by decide +kernel) (y := (106, [some (.ref a0), none, some (.int x2), some (.int x3), some (.int x4), some (.int x5), some (.int t9)], [.ref a0], h)) rfl ?_
        refine en_get (by decide +kernel : u_at kl_112 106 = some (.getfield 34, [9, 0])) hW ha0 (by decide) rfl ?_
        refine en_segs [(109, .aload_n 0, [])] (by decide +kernel) (y := (110, [some (.ref a0), none, some (.int x2), some (.int x3), some (.int x4), some (.int x5), some (.int t9)], [.ref a0, .ref (cR c9 0 a0)], h)) rfl ?_
        refine en_get (by decide +kernel : u_at kl_112 110 = some (.getfield 34, [9, 0])) hW ha0 (by decide) rfl ?_
        refine en_get (by decide +kernel : u_at kl_112 113 = some (.getfield 58, [6, 10])) hW k6 (by decide) rfl ?_
        refine en_segs [(116, .iload 4, [])] (by decide +kernel) (y := (118, [some (.ref a0), none, some (.int x2), some (.int x3), some (.int x4), some (.int x5), some (.int t9)], [.int x4, .ref (aP d 6 10 (cR c9 0 a0)), .ref (cR c9 0 a0)], h)) rfl ?_
        obtain ⟨v11, hv11, hF⟩ := ob_some hF
        refine en_iald (by decide +kernel : u_at kl_112 118 = some (.iaload, [])) hW k6 rfl (by decide) hv11 ?_
        refine en_segs [(119, .aload_n 0, [])] (by decide +kernel) (y := (120, [some (.ref a0), none, some (.int x2), some (.int x3), some (.int x4), some (.int x5), some (.int t9)], [.ref a0, .int v11, .ref (cR c9 0 a0)], h)) rfl ?_
        refine en_get (by decide +kernel : u_at kl_112 120 = some (.getfield 34, [9, 0])) hW ha0 (by decide) rfl ?_
        refine en_get (by decide +kernel : u_at kl_112 123 = some (.getfield 58, [6, 10])) hW k6 (by decide) rfl ?_
        refine en_segs [(126, .iload 5, [])] (by decide +kernel) (y := (128, [some (.ref a0), none, some (.int x2), some (.int x3), some (.int x4), some (.int x5), some (.int t9)], [.int x5, .ref (aP d 6 10 (cR c9 0 a0)), .int v11, .ref (cR c9 0 a0)], h)) rfl ?_
        obtain ⟨v12, hv12, hF⟩ := ob_some hF
        refine en_iald (by decide +kernel : u_at kl_112 128 = some (.iaload, [])) hW k6 rfl (by decide) hv12 ?_
        obtain ⟨r13, hr13, hF⟩ := ob_some hF
        refine en_vi (r := []) (by decide +kernel : u_at kl_112 129 = some (.invokevirtual 79, [59, 2, 6])) hW k6 rfl rfl (Nat.le_of_ble_eq_true rfl) (e_59 (D := D) (by omega) hW k6 hr13) (fun h' q => ?_)
        subst q
        obtain ⟨t14, hX, hK⟩ := ob_some hF
        have j15 : ∀ h : UH, HW (mkw c0 c1 c2 c3 c4 c5 c6 c7 c8 c9 c10 c11 c12 c13) d h → Ends (EX D) (u_at kl_112) (147, [some (.ref a0), none, some (.int x2), some (.int t14), some (.int x4), some (.int x5), some (.int t9)], [], h) QQ := by
          intro h hW
          have hF := hK
          refine en_segs [(147, .iinc 5 1, []), (150, .goto (-122), [28])] (by decide +kernel) (y := (28, [some (.ref a0), none, some (.int x2), some (.int t14), some (.int x4), some (.int (x5 + 1)), some (.int t9)], [], h)) rfl ?_
          refine en_fg (fg_k (fg_k (fg_k (fg_k (fg_k (fg_k (fg_d fg_0))))))) ?_
          exact (ih _ _ _ _ _ hF).2 _ _ _ _ rfl rfl rfl rfl  _ hW _ hQ
        have hF := hX
        refine en_if_eq (by decide +kernel : u_at kl_112 132 = some (.ifCond .eq 15, [147])) (fun b16 => ?_) (fun b16 => ?_)
        · replace hF := i_pos b16 hF
          obtain rfl := Option.some.inj hF
          exact j15 _ hW
        · replace hF := i_neg b16 hF
          refine en_segs [(135, .iload_n 2, [])] (by decide +kernel) (y := (136, [some (.ref a0), none, some (.int x2), some (.int x3), some (.int x4), some (.int x5), some (.int t9)], [.int x2], h)) rfl ?_
          refine en_if_eq (by decide +kernel : u_at kl_112 136 = some (.ifCond .eq 8, [144])) (fun b17 => ?_) (fun b17 => ?_)
          · replace hF := i_pos b17 hF
            refine en_segs [(144, .iinc 3 1, [])] (by decide +kernel) (y := (147, [some (.ref a0), none, some (.int x2), some (.int (x3 + 1)), some (.int x4), some (.int x5), some (.int t9)], [], h)) rfl ?_
            obtain rfl := Option.some.inj hF
            exact j15 _ hW
          · replace hF := i_neg b17 hF
            refine en_segs [(139, .iload 6, [])] (by decide +kernel) (y := (141, [some (.ref a0), none, some (.int x2), some (.int x3), some (.int x4), some (.int x5), some (.int t9)], [.int t9], h)) rfl ?_
            refine en_if_ne (by decide +kernel : u_at kl_112 141 = some (.ifCond .ne 6, [147])) (fun b18 => ?_) (fun b18 => ?_)
            · replace hF := i_pos b18 hF
              refine en_segs [(144, .iinc 3 1, [])] (by decide +kernel) (y := (147, [some (.ref a0), none, some (.int x2), some (.int (x3 + 1)), some (.int x4), some (.int x5), some (.int t9)], [], h)) rfl ?_
              obtain rfl := Option.some.inj hF
              exact j15 _ hW
            · replace hF := i_neg b18 hF
              obtain rfl := Option.some.inj hF
              exact j15 _ hW
      have hF := hX
      refine en_ic_eq (by decide +kernel : u_at kl_112 55 = some (.if_icmp .eq 47, [102])) (fun b19 => ?_) (fun b19 => ?_)
      · replace hF := i_pos b19 hF
        refine en_segs [(102, .iconst 0, [])] (by decide +kernel) (y := (103, [some (.ref a0), none, some (.int x2), some (.int x3), some (.int x4), some (.int x5), none], [.int 0], h)) rfl ?_
        obtain rfl := Option.some.inj hF
        exact j10 _ hW
      · replace hF := i_neg b19 hF
        refine en_segs [(58, .aload_n 0, [])] (by decide +kernel) (y := (59, [some (.ref a0), none, some (.int x2), some (.int x3), some (.int x4), some (.int x5), none], [.ref a0], h)) rfl ?_
        refine en_get (by decide +kernel : u_at kl_112 59 = some (.getfield 34, [9, 0])) hW ha0 (by decide) rfl ?_
        refine en_get (by decide +kernel : u_at kl_112 62 = some (.getfield 76, [6, 9])) hW k6 (by decide) rfl ?_
        refine en_segs [(65, .aload_n 0, [])] (by decide +kernel) (y := (66, [some (.ref a0), none, some (.int x2), some (.int x3), some (.int x4), some (.int x5), none], [.ref a0, .ref (aP d 6 9 (cR c9 0 a0))], h)) rfl ?_
        refine en_get (by decide +kernel : u_at kl_112 66 = some (.getfield 34, [9, 0])) hW ha0 (by decide) rfl ?_
        refine en_get (by decide +kernel : u_at kl_112 69 = some (.getfield 58, [6, 10])) hW k6 (by decide) rfl ?_
        refine en_segs [(72, .iload 4, [])] (by decide +kernel) (y := (74, [some (.ref a0), none, some (.int x2), some (.int x3), some (.int x4), some (.int x5), none], [.int x4, .ref (aP d 6 10 (cR c9 0 a0)), .ref (aP d 6 9 (cR c9 0 a0))], h)) rfl ?_
        obtain ⟨v20, hv20, hF⟩ := ob_some hF
        refine en_iald (by decide +kernel : u_at kl_112 74 = some (.iaload, [])) hW k6 rfl (by decide) hv20 ?_
        obtain ⟨v21, hv21, hF⟩ := ob_some hF
        refine en_lald (by decide +kernel : u_at kl_112 75 = some (.laload, [])) hW k6 rfl (by decide) hv21 ?_
        refine en_segs [(76, .aload_n 0, [])] (by decide +kernel) (y := (77, [some (.ref a0), none, some (.int x2), some (.int x3), some (.int x4), some (.int x5), none], [.ref a0, .long v21], h)) rfl ?_
        refine en_get (by decide +kernel : u_at kl_112 77 = some (.getfield 34, [9, 0])) hW ha0 (by decide) rfl ?_
        refine en_get (by decide +kernel : u_at kl_112 80 = some (.getfield 76, [6, 9])) hW k6 (by decide) rfl ?_
        refine en_segs [(83, .aload_n 0, [])] (by decide +kernel) (y := (84, [some (.ref a0), none, some (.int x2), some (.int x3), some (.int x4), some (.int x5), none], [.ref a0, .ref (aP d 6 9 (cR c9 0 a0)), .long v21], h)) rfl ?_
        refine en_get (by decide +kernel : u_at kl_112 84 = some (.getfield 34, [9, 0])) hW ha0 (by decide) rfl ?_
        refine en_get (by decide +kernel : u_at kl_112 87 = some (.getfield 58, [6, 10])) hW k6 (by decide) rfl ?_
        refine en_segs [(90, .iload 5, [])] (by decide +kernel) (y := (92, [some (.ref a0), none, some (.int x2), some (.int x3), some (.int x4), some (.int x5), none], [.int x5, .ref (aP d 6 10 (cR c9 0 a0)), .ref (aP d 6 9 (cR c9 0 a0)), .long v21], h)) rfl ?_
        obtain ⟨v22, hv22, hF⟩ := ob_some hF
        refine en_iald (by decide +kernel : u_at kl_112 92 = some (.iaload, [])) hW k6 rfl (by decide) hv22 ?_
        obtain ⟨v23, hv23, hF⟩ := ob_some hF
        refine en_lald (by decide +kernel : u_at kl_112 93 = some (.laload, [])) hW k6 rfl (by decide) hv23 ?_
        refine en_segs [(94, .lcmp, [])] (by decide +kernel) (y := (95, [some (.ref a0), none, some (.int x2), some (.int x3), some (.int x4), some (.int x5), none], [.int (lg_cmp v21 v23)], h)) rfl ?_
        refine en_if_eq (by decide +kernel : u_at kl_112 95 = some (.ifCond .eq 7, [102])) (fun b24 => ?_) (fun b24 => ?_)
        · replace hF := i_pos b24 hF
          refine en_segs [(102, .iconst 0, [])] (by decide +kernel) (y := (103, [some (.ref a0), none, some (.int x2), some (.int x3), some (.int x4), some (.int x5), none], [.int 0], h)) rfl ?_
          obtain rfl := Option.some.inj hF
          exact j10 _ hW
        · replace hF := i_neg b24 hF
          refine en_segs [(98, .iconst 1, []), (99, .goto 4, [103])] (by decide +kernel) (y := (103, [some (.ref a0), none, some (.int x2), some (.int x3), some (.int x4), some (.int x5), none], [.int 1], h)) rfl ?_
          obtain rfl := Option.some.inj hF
          exact j10 _ hW
def F_112 (c1 : Cl) (c6 : Cl) (c8 : Cl) (c9 : Cl) (a0 : Nat) (a1 : Nat) (p2 : Int32) : Option (Int32 × Cl) :=
  F_51 c1 c6 c8 (cR c9 0 a0) a1 >>= fun r2 =>
  G_112 c1 r2 c8 c9 a0 a1 0 [p2, 0, 0] [] []
set_option maxRecDepth 100000 in
set_option maxHeartbeats 4000000 in
/-- HeadCounts$Watching.twos -/
theorem e_112 {D : Nat} {c0 c1 c2 c3 c4 c5 c6 c7 c8 c9 c10 c11 c12 c13 : Cl} {d : Ad} {h : UH} {a0 : Nat} {a1 : Nat} {p2 : Int32} {r : (Int32 × Cl)} (hD : 4 ≤ D) (hW : HW (mkw c0 c1 c2 c3 c4 c5 c6 c7 c8 c9 c10 c11 c12 c13) d h) (ha0 : aK d a0 = (0, 9, 0)) (ha1 : aK d a1 = (0, 8, 0)) (hF : F_112 c1 c6 c8 c9 a0 a1 p2 = some r) : ∃ q, EX D 112 [.ref a0, .ref a1, .int p2] h q ∧ q.1 = some (.int r.1) ∧ HW (mkw c0 c1 c2 c3 c4 c5 r.2 c7 c8 c9 c10 c11 c12 c13) d q.2 := by
  obtain ⟨D, rfl⟩ : ∃ E, D = E + 1 := ⟨D - 1, by omega⟩
  unfold F_112 at hF
  refine ex_in (kl := kl_112) (nL := 7) rfl (by decide +kernel) (Nat.le_of_ble_eq_true rfl) ?_
  obtain ⟨QQ, hQQ⟩ : ∃ QQ : UR → Prop, QQ = (fun q : UR => q.1 = some (.int r.1) ∧ HW (mkw c0 c1 c2 c3 c4 c5 r.2 c7 c8 c9 c10 c11 c12 c13) d q.2) := ⟨_, rfl⟩
  rw [← hQQ]
  have hQ : ∀ h' : UH, HW (mkw c0 c1 c2 c3 c4 c5 r.2 c7 c8 c9 c10 c11 c12 c13) d h' → QQ (some (.int r.1), h') := fun h' p => by rw [hQQ]; exact ⟨rfl, p⟩
  clear hQQ
  show Ends (EX D) (u_at kl_112) (0, [some (.ref a0), some (.ref a1), some (.int p2), none, none, none, none], [], h) QQ
  refine en_segs [(0, .aload_n 0, [])] (by decide +kernel) (y := (1, [some (.ref a0), some (.ref a1), some (.int p2), none, none, none, none], [.ref a0], h)) rfl ?_
  have k1 : aK d (cR c9 0 a0) = (0, 6, 0) := wf_obj hW ha0 (by decide) rfl
  refine en_get (by decide +kernel : u_at kl_112 1 = some (.getfield 34, [9, 0])) hW ha0 (by decide) rfl ?_
  refine en_segs [(4, .aload_n 1, [])] (by decide +kernel) (y := (5, [some (.ref a0), some (.ref a1), some (.int p2), none, none, none, none], [.ref a1, .ref (cR c9 0 a0)], h)) rfl ?_
  obtain ⟨r2, hr2, hF⟩ := ob_some hF
  refine en_vv (r := []) (by decide +kernel : u_at kl_112 5 = some (.invokevirtual 38, [51, 1, 6])) hW k1 rfl rfl (Nat.le_of_ble_eq_true rfl) (e_51 (D := D) (by omega) hW k1 ha1 hr2) (fun h hW => ?_)
  have hW : HW (mkw c0 c1 c2 c3 c4 c5 r2 c7 c8 c9 c10 c11 c12 c13) d h := hW
  refine en_segs [(8, .iconst 0, []), (9, .istore_n 3, []), (10, .iconst 0, []), (11, .istore 4, [])] (by decide +kernel) (y := (13, [some (.ref a0), some (.ref a1), some (.int p2), some (.int 0), some (.int 0), none, none], [], h)) rfl ?_
  refine en_fg (fg_k (fg_d (fg_k (fg_k (fg_k (fg_k (fg_k fg_0))))))) ?_
  exact (g_112 (D := D) hD ha0 ha1 _ _ _ _ _ hF).1 _ _ _ rfl rfl rfl rfl  _ hW _ hQ
def G_114 (c6 : Cl) (a0 : Nat) (lab : Nat) (xs : List Int32) (ys : List Int64) (zs : List Nat) (c9 : Cl) : Option (Cl × Cl) := match lab, xs, ys, zs with
  | 0, [x1, x3], [], [] =>
    if (cI c6 0 (cR c9 0 a0)) ≤ x3 then
    some (c6, c9)
    else
    ast c9 7 a0 6 x3 (1 <<< (x3 &&& 31)) >>= fun c9_8 =>
    ast c9_8 8 a0 6 x3 0 >>= fun c9_9 =>
    G_114 c6 a0 1 [x1, x3, 0] [] [] c9_9
  | 1, [x1, x3, x4], [], [] =>
    if (cI c6 0 (cR c9 0 a0)) ≤ x4 then
    G_114 c6 a0 0 [x1, x3 + 1] [] [] c9
    else
    F_59 c6 (cR c9 0 a0) x3 x4 >>= fun r12 =>
    ((if r12 = 0 then
    some c9
    else
    ald (cA c6 11 (cR c9 0 a0)) 6 x4 >>= fun v24 =>
    ald (cA c6 5 (cR c9 0 a0)) 6 x1 >>= fun v25 =>
    ald (cA c6 7 (cR c9 0 a0)) 6 x4 >>= fun v26 =>
    if v26 < (v24 + v25) then
    some c9
    else
    ald (cA c9 7 a0) 6 x3 >>= fun v28 =>
    ast c9 7 a0 6 x3 (v28 ||| (1 <<< (x4 &&& 31))) >>= fun c9_29 =>
    some c9_29) : Option (Cl)) >>= fun (t13 : Cl) =>
    ldl (cB c6 9 (cR t13 0 a0)) 6 x3 >>= fun v16 =>
    ldl (cB c6 9 (cR t13 0 a0)) 6 x4 >>= fun v17 =>
    ((if (lg_cmp v16 v17) = 0 then
    ald (cA t13 8 a0) 6 x3 >>= fun v21 =>
    ast t13 8 a0 6 x3 (v21 ||| (1 <<< (x4 &&& 31))) >>= fun c9_22 =>
    some c9_22
    else
    some t13) : Option (Cl)) >>= fun (t18 : Cl) =>
    G_114 c6 a0 1 [x1, x3, x4 + 1] [] [] t18
  | _, _, _, _ => none
partial_fixpoint
set_option maxRecDepth 100000 in
set_option maxHeartbeats 4000000 in
theorem g_114 {D : Nat} (hD : 2 ≤ D + 1) {c0 c1 c2 c3 c4 c5 c6 c7 c8 c10 c11 c12 c13 : Cl} {d : Ad} {a0 : Nat} (ha0 : aK d a0 = (0, 9, 0)) : ∀ (lab : Nat) (xs : List Int32) (ys : List Int64) (zs : List Nat) (c9 : Cl) (r : (Cl × Cl)), G_114 c6 a0 lab xs ys zs c9 = some r →
    (∀ (x1 : Int32) (x3 : Int32), lab = 0 → xs = [x1, x3] → ys = [] → zs = [] → ∀ h : UH, HW (mkw c0 c1 c2 c3 c4 c5 c6 c7 c8 c9 c10 c11 c12 c13) d h → ∀ QQ : UR → Prop, (∀ h' : UH, HW (mkw c0 c1 c2 c3 c4 c5 r.1 c7 c8 r.2 c10 c11 c12 c13) d h' → QQ (none, h')) → Ends (EX D) (u_at kl_114) (33, [some (.ref a0), some (.int x1), none, some (.int x3), none], [], h) QQ) ∧
    (∀ (x1 : Int32) (x3 : Int32) (x4 : Int32), lab = 1 → xs = [x1, x3, x4] → ys = [] → zs = [] → ∀ h : UH, HW (mkw c0 c1 c2 c3 c4 c5 c6 c7 c8 c9 c10 c11 c12 c13) d h → ∀ QQ : UR → Prop, (∀ h' : UH, HW (mkw c0 c1 c2 c3 c4 c5 r.1 c7 c8 r.2 c10 c11 c12 c13) d h' → QQ (none, h')) → Ends (EX D) (u_at kl_114) (63, [some (.ref a0), some (.int x1), none, some (.int x3), some (.int x4)], [], h) QQ) := by
  refine G_114.partial_correctness _ _ (motive := fun lab xs ys zs c9 r =>
    (∀ (x1 : Int32) (x3 : Int32), lab = 0 → xs = [x1, x3] → ys = [] → zs = [] → ∀ h : UH, HW (mkw c0 c1 c2 c3 c4 c5 c6 c7 c8 c9 c10 c11 c12 c13) d h → ∀ QQ : UR → Prop, (∀ h' : UH, HW (mkw c0 c1 c2 c3 c4 c5 r.1 c7 c8 r.2 c10 c11 c12 c13) d h' → QQ (none, h')) → Ends (EX D) (u_at kl_114) (33, [some (.ref a0), some (.int x1), none, some (.int x3), none], [], h) QQ) ∧
    (∀ (x1 : Int32) (x3 : Int32) (x4 : Int32), lab = 1 → xs = [x1, x3, x4] → ys = [] → zs = [] → ∀ h : UH, HW (mkw c0 c1 c2 c3 c4 c5 c6 c7 c8 c9 c10 c11 c12 c13) d h → ∀ QQ : UR → Prop, (∀ h' : UH, HW (mkw c0 c1 c2 c3 c4 c5 r.1 c7 c8 r.2 c10 c11 c12 c13) d h' → QQ (none, h')) → Ends (EX D) (u_at kl_114) (63, [some (.ref a0), some (.int x1), none, some (.int x3), some (.int x4)], [], h) QQ)) ?_
  intro G ih lab xs ys zs c9 r hF
  refine ⟨?_, ?_⟩
  · intro x1 x3 e1 e2 e3 e4 h hW QQ hQ
    subst e1 e2 e3 e4
    refine en_segs [(33, .iload_n 3, []), (34, .aload_n 0, [])] (by decide +kernel) (y := (35, [some (.ref a0), some (.int x1), none, some (.int x3), none], [.ref a0, .int x3], h)) rfl ?_
    have k6 : aK d (cR c9 0 a0) = (0, 6, 0) := wf_obj hW ha0 (by decide) rfl
    refine en_get (by decide +kernel : u_at kl_114 35 = some (.getfield 34, [9, 0])) hW ha0 (by decide) rfl ?_
    refine en_get (by decide +kernel : u_at kl_114 38 = some (.getfield 51, [6, 0])) hW k6 (by decide) rfl ?_
    refine en_ic_ge (by decide +kernel : u_at kl_114 41 = some (.if_icmp .ge 141, [182])) (fun b7 => ?_) (fun b7 => ?_)
    · replace hF := i_pos b7 hF
      obtain rfl := Option.some.inj hF
      exact en_ret (by decide +kernel : u_at kl_114 182 = some (.return_, [])) rfl (hQ _ hW)
    · replace hF := i_neg b7 hF
      refine en_segs [(44, .aload_n 0, [])] (by decide +kernel) (y := (45, [some (.ref a0), some (.int x1), none, some (.int x3), none], [.ref a0], h)) rfl ?_
      refine en_get (by decide +kernel : u_at kl_114 45 = some (.getfield 28, [9, 7])) hW ha0 (by decide) rfl ?_
      refine en_segs [(48, .iload_n 3, []), (49, .iconst 1, []), (50, .iload_n 3, []), (51, .ishl, [])] (by decide +kernel) (y := (52, [some (.ref a0), some (.int x1), none, some (.int x3), none], [.int (1 <<< (x3 &&& 31)), .int x3, .ref (aP d 9 7 a0)], h)) rfl ?_
      obtain ⟨c9_8, hc9_8, hF⟩ := ob_some hF
      refine en_iast (by decide +kernel : u_at kl_114 52 = some (.iastore, [])) hW ha0 rfl (by decide) hc9_8 (fun h hW => ?_)
      have hW : HW (mkw c0 c1 c2 c3 c4 c5 c6 c7 c8 c9_8 c10 c11 c12 c13) d h := hW
      refine en_segs [(53, .aload_n 0, [])] (by decide +kernel) (y := (54, [some (.ref a0), some (.int x1), none, some (.int x3), none], [.ref a0], h)) rfl ?_
      refine en_get (by decide +kernel : u_at kl_114 54 = some (.getfield 31, [9, 8])) hW ha0 (by decide) rfl ?_
      refine en_segs [(57, .iload_n 3, []), (58, .iconst 0, [])] (by decide +kernel) (y := (59, [some (.ref a0), some (.int x1), none, some (.int x3), none], [.int 0, .int x3, .ref (aP d 9 8 a0)], h)) rfl ?_
      obtain ⟨c9_9, hc9_9, hF⟩ := ob_some hF
      refine en_iast (by decide +kernel : u_at kl_114 59 = some (.iastore, [])) hW ha0 rfl (by decide) hc9_9 (fun h hW => ?_)
      have hW : HW (mkw c0 c1 c2 c3 c4 c5 c6 c7 c8 c9_9 c10 c11 c12 c13) d h := hW
      refine en_segs [(60, .iconst 0, []), (61, .istore 4, [])] (by decide +kernel) (y := (63, [some (.ref a0), some (.int x1), none, some (.int x3), some (.int 0)], [], h)) rfl ?_
      exact (ih _ _ _ _ _ _ hF).2 _ _ _ rfl rfl rfl rfl  _ hW _ hQ
  · intro x1 x3 x4 e1 e2 e3 e4 h hW QQ hQ
    subst e1 e2 e3 e4
    refine en_segs [(63, .iload 4, []), (65, .aload_n 0, [])] (by decide +kernel) (y := (66, [some (.ref a0), some (.int x1), none, some (.int x3), some (.int x4)], [.ref a0, .int x4], h)) rfl ?_
    have k10 : aK d (cR c9 0 a0) = (0, 6, 0) := wf_obj hW ha0 (by decide) rfl
    refine en_get (by decide +kernel : u_at kl_114 66 = some (.getfield 34, [9, 0])) hW ha0 (by decide) rfl ?_
    refine en_get (by decide +kernel : u_at kl_114 69 = some (.getfield 51, [6, 0])) hW k10 (by decide) rfl ?_
    refine en_ic_ge (by decide +kernel : u_at kl_114 72 = some (.if_icmp .ge 104, [176])) (fun b11 => ?_) (fun b11 => ?_)
    · replace hF := i_pos b11 hF
      refine en_segs [(176, .iinc 3 1, []), (179, .goto (-146), [33])] (by decide +kernel) (y := (33, [some (.ref a0), some (.int x1), none, some (.int (x3 + 1)), some (.int x4)], [], h)) rfl ?_
      refine en_fg (fg_k (fg_k (fg_k (fg_k (fg_d fg_0))))) ?_
      exact (ih _ _ _ _ _ _ hF).1 _ _ rfl rfl rfl rfl  _ hW _ hQ
    · replace hF := i_neg b11 hF
      refine en_segs [(75, .aload_n 0, [])] (by decide +kernel) (y := (76, [some (.ref a0), some (.int x1), none, some (.int x3), some (.int x4)], [.ref a0], h)) rfl ?_
      refine en_get (by decide +kernel : u_at kl_114 76 = some (.getfield 34, [9, 0])) hW ha0 (by decide) rfl ?_
      refine en_segs [(79, .iload_n 3, []), (80, .iload 4, [])] (by decide +kernel) (y := (82, [some (.ref a0), some (.int x1), none, some (.int x3), some (.int x4)], [.int x4, .int x3, .ref (cR c9 0 a0)], h)) rfl ?_
      obtain ⟨r12, hr12, hF⟩ := ob_some hF
      refine en_vi (r := []) (by decide +kernel : u_at kl_114 82 = some (.invokevirtual 79, [59, 2, 6])) hW k10 rfl rfl (Nat.le_of_ble_eq_true rfl) (e_59 (D := D) (by omega) hW k10 hr12) (fun h' q => ?_)
      subst q
      obtain ⟨t13, hX, hK⟩ := ob_some hF
      have j14 : ∀ h : UH, HW (mkw c0 c1 c2 c3 c4 c5 c6 c7 c8 t13 c10 c11 c12 c13) d h → Ends (EX D) (u_at kl_114) (134, [some (.ref a0), some (.int x1), none, some (.int x3), some (.int x4)], [], h) QQ := by
        intro h hW
        have hF := hK
        refine en_segs [(134, .aload_n 0, [])] (by decide +kernel) (y := (135, [some (.ref a0), some (.int x1), none, some (.int x3), some (.int x4)], [.ref a0], h)) rfl ?_
        have k15 : aK d (cR t13 0 a0) = (0, 6, 0) := wf_obj hW ha0 (by decide) rfl
        refine en_get (by decide +kernel : u_at kl_114 135 = some (.getfield 34, [9, 0])) hW ha0 (by decide) rfl ?_
        refine en_get (by decide +kernel : u_at kl_114 138 = some (.getfield 76, [6, 9])) hW k15 (by decide) rfl ?_
        refine en_segs [(141, .iload_n 3, [])] (by decide +kernel) (y := (142, [some (.ref a0), some (.int x1), none, some (.int x3), some (.int x4)], [.int x3, .ref (aP d 6 9 (cR t13 0 a0))], h)) rfl ?_
        obtain ⟨v16, hv16, hF⟩ := ob_some hF
        refine en_lald (by decide +kernel : u_at kl_114 142 = some (.laload, [])) hW k15 rfl (by decide) hv16 ?_
        refine en_segs [(143, .aload_n 0, [])] (by decide +kernel) (y := (144, [some (.ref a0), some (.int x1), none, some (.int x3), some (.int x4)], [.ref a0, .long v16], h)) rfl ?_
        refine en_get (by decide +kernel : u_at kl_114 144 = some (.getfield 34, [9, 0])) hW ha0 (by decide) rfl ?_
        refine en_get (by decide +kernel : u_at kl_114 147 = some (.getfield 76, [6, 9])) hW k15 (by decide) rfl ?_
        refine en_segs [(150, .iload 4, [])] (by decide +kernel) (y := (152, [some (.ref a0), some (.int x1), none, some (.int x3), some (.int x4)], [.int x4, .ref (aP d 6 9 (cR t13 0 a0)), .long v16], h)) rfl ?_
        obtain ⟨v17, hv17, hF⟩ := ob_some hF
        refine en_lald (by decide +kernel : u_at kl_114 152 = some (.laload, [])) hW k15 rfl (by decide) hv17 ?_
        refine en_segs [(153, .lcmp, [])] (by decide +kernel) (y := (154, [some (.ref a0), some (.int x1), none, some (.int x3), some (.int x4)], [.int (lg_cmp v16 v17)], h)) rfl ?_
        obtain ⟨t18, hX, hK⟩ := ob_some hF
        have j19 : ∀ h : UH, HW (mkw c0 c1 c2 c3 c4 c5 c6 c7 c8 t18 c10 c11 c12 c13) d h → Ends (EX D) (u_at kl_114) (170, [some (.ref a0), some (.int x1), none, some (.int x3), some (.int x4)], [], h) QQ := by
          intro h hW
          have hF := hK
          refine en_segs [(170, .iinc 4 1, []), (173, .goto (-110), [63])] (by decide +kernel) (y := (63, [some (.ref a0), some (.int x1), none, some (.int x3), some (.int (x4 + 1))], [], h)) rfl ?_
          exact (ih _ _ _ _ _ _ hF).2 _ _ _ rfl rfl rfl rfl  _ hW _ hQ
        have hF := hX
        refine en_if_ne (by decide +kernel : u_at kl_114 154 = some (.ifCond .ne 16, [170])) (fun b20 => ?_) (fun b20 => ?_)
        · replace hF := i_pos b20 hF
          refine en_segs [(157, .aload_n 0, [])] (by decide +kernel) (y := (158, [some (.ref a0), some (.int x1), none, some (.int x3), some (.int x4)], [.ref a0], h)) rfl ?_
          refine en_get (by decide +kernel : u_at kl_114 158 = some (.getfield 31, [9, 8])) hW ha0 (by decide) rfl ?_
          refine en_segs [(161, .iload_n 3, []), (162, .dup2, [])] (by decide +kernel) (y := (163, [some (.ref a0), some (.int x1), none, some (.int x3), some (.int x4)], [.int x3, .ref (aP d 9 8 a0), .int x3, .ref (aP d 9 8 a0)], h)) rfl ?_
          obtain ⟨v21, hv21, hF⟩ := ob_some hF
          refine en_iald (by decide +kernel : u_at kl_114 163 = some (.iaload, [])) hW ha0 rfl (by decide) hv21 ?_
          refine en_segs [(164, .iconst 1, []), (165, .iload 4, []), (167, .ishl, []), (168, .ior, [])] (by decide +kernel) (y := (169, [some (.ref a0), some (.int x1), none, some (.int x3), some (.int x4)], [.int (v21 ||| (1 <<< (x4 &&& 31))), .int x3, .ref (aP d 9 8 a0)], h)) rfl ?_
          obtain ⟨c9_22, hc9_22, hF⟩ := ob_some hF
          refine en_iast (by decide +kernel : u_at kl_114 169 = some (.iastore, [])) hW ha0 rfl (by decide) hc9_22 (fun h hW => ?_)
          have hW : HW (mkw c0 c1 c2 c3 c4 c5 c6 c7 c8 c9_22 c10 c11 c12 c13) d h := hW
          obtain rfl := Option.some.inj hF
          exact j19 _ hW
        · replace hF := i_neg b20 hF
          obtain rfl := Option.some.inj hF
          exact j19 _ hW
      have hF := hX
      refine en_if_eq (by decide +kernel : u_at kl_114 85 = some (.ifCond .eq 49, [134])) (fun b23 => ?_) (fun b23 => ?_)
      · replace hF := i_pos b23 hF
        obtain rfl := Option.some.inj hF
        exact j14 _ hW
      · replace hF := i_neg b23 hF
        refine en_segs [(88, .aload_n 0, [])] (by decide +kernel) (y := (89, [some (.ref a0), some (.int x1), none, some (.int x3), some (.int x4)], [.ref a0], h)) rfl ?_
        refine en_get (by decide +kernel : u_at kl_114 89 = some (.getfield 34, [9, 0])) hW ha0 (by decide) rfl ?_
        refine en_get (by decide +kernel : u_at kl_114 92 = some (.getfield 101, [6, 11])) hW k10 (by decide) rfl ?_
        refine en_segs [(95, .iload 4, [])] (by decide +kernel) (y := (97, [some (.ref a0), some (.int x1), none, some (.int x3), some (.int x4)], [.int x4, .ref (aP d 6 11 (cR c9 0 a0))], h)) rfl ?_
        obtain ⟨v24, hv24, hF⟩ := ob_some hF
        refine en_iald (by decide +kernel : u_at kl_114 97 = some (.iaload, [])) hW k10 rfl (by decide) hv24 ?_
        refine en_segs [(98, .aload_n 0, [])] (by decide +kernel) (y := (99, [some (.ref a0), some (.int x1), none, some (.int x3), some (.int x4)], [.ref a0, .int v24], h)) rfl ?_
        refine en_get (by decide +kernel : u_at kl_114 99 = some (.getfield 34, [9, 0])) hW ha0 (by decide) rfl ?_
        refine en_get (by decide +kernel : u_at kl_114 102 = some (.getfield 61, [6, 5])) hW k10 (by decide) rfl ?_
        refine en_segs [(105, .iload_n 1, [])] (by decide +kernel) (y := (106, [some (.ref a0), some (.int x1), none, some (.int x3), some (.int x4)], [.int x1, .ref (aP d 6 5 (cR c9 0 a0)), .int v24], h)) rfl ?_
        obtain ⟨v25, hv25, hF⟩ := ob_some hF
        refine en_iald (by decide +kernel : u_at kl_114 106 = some (.iaload, [])) hW k10 rfl (by decide) hv25 ?_
        refine en_segs [(107, .iadd, []), (108, .aload_n 0, [])] (by decide +kernel) (y := (109, [some (.ref a0), some (.int x1), none, some (.int x3), some (.int x4)], [.ref a0, .int (v24 + v25)], h)) rfl ?_
        refine en_get (by decide +kernel : u_at kl_114 109 = some (.getfield 34, [9, 0])) hW ha0 (by decide) rfl ?_
        refine en_get (by decide +kernel : u_at kl_114 112 = some (.getfield 104, [6, 7])) hW k10 (by decide) rfl ?_
        refine en_segs [(115, .iload 4, [])] (by decide +kernel) (y := (117, [some (.ref a0), some (.int x1), none, some (.int x3), some (.int x4)], [.int x4, .ref (aP d 6 7 (cR c9 0 a0)), .int (v24 + v25)], h)) rfl ?_
        obtain ⟨v26, hv26, hF⟩ := ob_some hF
        refine en_iald (by decide +kernel : u_at kl_114 117 = some (.iaload, [])) hW k10 rfl (by decide) hv26 ?_
        refine en_ic_gt (by decide +kernel : u_at kl_114 118 = some (.if_icmp .gt 16, [134])) (fun b27 => ?_) (fun b27 => ?_)
        · replace hF := i_pos b27 hF
          obtain rfl := Option.some.inj hF
          exact j14 _ hW
        · replace hF := i_neg b27 hF
          refine en_segs [(121, .aload_n 0, [])] (by decide +kernel) (y := (122, [some (.ref a0), some (.int x1), none, some (.int x3), some (.int x4)], [.ref a0], h)) rfl ?_
          refine en_get (by decide +kernel : u_at kl_114 122 = some (.getfield 28, [9, 7])) hW ha0 (by decide) rfl ?_
          refine en_segs [(125, .iload_n 3, []), (126, .dup2, [])] (by decide +kernel) (y := (127, [some (.ref a0), some (.int x1), none, some (.int x3), some (.int x4)], [.int x3, .ref (aP d 9 7 a0), .int x3, .ref (aP d 9 7 a0)], h)) rfl ?_
          obtain ⟨v28, hv28, hF⟩ := ob_some hF
          refine en_iald (by decide +kernel : u_at kl_114 127 = some (.iaload, [])) hW ha0 rfl (by decide) hv28 ?_
          refine en_segs [(128, .iconst 1, []), (129, .iload 4, []), (131, .ishl, []), (132, .ior, [])] (by decide +kernel) (y := (133, [some (.ref a0), some (.int x1), none, some (.int x3), some (.int x4)], [.int (v28 ||| (1 <<< (x4 &&& 31))), .int x3, .ref (aP d 9 7 a0)], h)) rfl ?_
          obtain ⟨c9_29, hc9_29, hF⟩ := ob_some hF
          refine en_iast (by decide +kernel : u_at kl_114 133 = some (.iastore, [])) hW ha0 rfl (by decide) hc9_29 (fun h hW => ?_)
          have hW : HW (mkw c0 c1 c2 c3 c4 c5 c6 c7 c8 c9_29 c10 c11 c12 c13) d h := hW
          obtain rfl := Option.some.inj hF
          exact j14 _ hW
def F_114 (c6 : Cl) (c9 : Cl) (a0 : Nat) (p1 : Int32) : Option (Cl × Cl) :=
  ald (cA c6 10 (cR c9 0 a0)) 6 p1 >>= fun v2 =>
  ald (cA c6 11 (cR c9 0 a0)) 6 v2 >>= fun v3 =>
  ald (cA c6 5 (cR c9 0 a0)) 6 p1 >>= fun v4 =>
  ast c6 11 (cR c9 0 a0) 6 v2 (v3 - v4) >>= fun c6_5 =>
  G_114 c6_5 a0 0 [p1, 0] [] [] c9
set_option maxRecDepth 100000 in
set_option maxHeartbeats 4000000 in
/-- HeadCounts$Watching.listReach -/
theorem e_114 {D : Nat} {c0 c1 c2 c3 c4 c5 c6 c7 c8 c9 c10 c11 c12 c13 : Cl} {d : Ad} {h : UH} {a0 : Nat} {p1 : Int32} {r : (Cl × Cl)} (hD : 2 ≤ D) (hW : HW (mkw c0 c1 c2 c3 c4 c5 c6 c7 c8 c9 c10 c11 c12 c13) d h) (ha0 : aK d a0 = (0, 9, 0)) (hF : F_114 c6 c9 a0 p1 = some r) : ∃ q, EX D 114 [.ref a0, .int p1] h q ∧ q.1 = none ∧ HW (mkw c0 c1 c2 c3 c4 c5 r.1 c7 c8 r.2 c10 c11 c12 c13) d q.2 := by
  obtain ⟨D, rfl⟩ : ∃ E, D = E + 1 := ⟨D - 1, by omega⟩
  unfold F_114 at hF
  refine ex_in (kl := kl_114) (nL := 5) rfl (by decide +kernel) (Nat.le_of_ble_eq_true rfl) ?_
  obtain ⟨QQ, hQQ⟩ : ∃ QQ : UR → Prop, QQ = (fun q : UR => q.1 = none ∧ HW (mkw c0 c1 c2 c3 c4 c5 r.1 c7 c8 r.2 c10 c11 c12 c13) d q.2) := ⟨_, rfl⟩
  rw [← hQQ]
  have hQ : ∀ h' : UH, HW (mkw c0 c1 c2 c3 c4 c5 r.1 c7 c8 r.2 c10 c11 c12 c13) d h' → QQ (none, h') := fun h' p => by rw [hQQ]; exact ⟨rfl, p⟩
  clear hQQ
  show Ends (EX D) (u_at kl_114) (0, [some (.ref a0), some (.int p1), none, none, none], [], h) QQ
  refine en_segs [(0, .aload_n 0, [])] (by decide +kernel) (y := (1, [some (.ref a0), some (.int p1), none, none, none], [.ref a0], h)) rfl ?_
  have k1 : aK d (cR c9 0 a0) = (0, 6, 0) := wf_obj hW ha0 (by decide) rfl
  refine en_get (by decide +kernel : u_at kl_114 1 = some (.getfield 34, [9, 0])) hW ha0 (by decide) rfl ?_
  refine en_get (by decide +kernel : u_at kl_114 4 = some (.getfield 58, [6, 10])) hW k1 (by decide) rfl ?_
  refine en_segs [(7, .iload_n 1, [])] (by decide +kernel) (y := (8, [some (.ref a0), some (.int p1), none, none, none], [.int p1, .ref (aP d 6 10 (cR c9 0 a0))], h)) rfl ?_
  obtain ⟨v2, hv2, hF⟩ := ob_some hF
  refine en_iald (by decide +kernel : u_at kl_114 8 = some (.iaload, [])) hW k1 rfl (by decide) hv2 ?_
  refine en_segs [(9, .istore_n 2, []), (10, .aload_n 0, [])] (by decide +kernel) (y := (11, [some (.ref a0), some (.int p1), some (.int v2), none, none], [.ref a0], h)) rfl ?_
  refine en_get (by decide +kernel : u_at kl_114 11 = some (.getfield 34, [9, 0])) hW ha0 (by decide) rfl ?_
  refine en_get (by decide +kernel : u_at kl_114 14 = some (.getfield 101, [6, 11])) hW k1 (by decide) rfl ?_
  refine en_segs [(17, .iload_n 2, []), (18, .dup2, [])] (by decide +kernel) (y := (19, [some (.ref a0), some (.int p1), some (.int v2), none, none], [.int v2, .ref (aP d 6 11 (cR c9 0 a0)), .int v2, .ref (aP d 6 11 (cR c9 0 a0))], h)) rfl ?_
  obtain ⟨v3, hv3, hF⟩ := ob_some hF
  refine en_iald (by decide +kernel : u_at kl_114 19 = some (.iaload, [])) hW k1 rfl (by decide) hv3 ?_
  refine en_segs [(20, .aload_n 0, [])] (by decide +kernel) (y := (21, [some (.ref a0), some (.int p1), some (.int v2), none, none], [.ref a0, .int v3, .int v2, .ref (aP d 6 11 (cR c9 0 a0))], h)) rfl ?_
  refine en_get (by decide +kernel : u_at kl_114 21 = some (.getfield 34, [9, 0])) hW ha0 (by decide) rfl ?_
  refine en_get (by decide +kernel : u_at kl_114 24 = some (.getfield 61, [6, 5])) hW k1 (by decide) rfl ?_
  refine en_segs [(27, .iload_n 1, [])] (by decide +kernel) (y := (28, [some (.ref a0), some (.int p1), some (.int v2), none, none], [.int p1, .ref (aP d 6 5 (cR c9 0 a0)), .int v3, .int v2, .ref (aP d 6 11 (cR c9 0 a0))], h)) rfl ?_
  obtain ⟨v4, hv4, hF⟩ := ob_some hF
  refine en_iald (by decide +kernel : u_at kl_114 28 = some (.iaload, [])) hW k1 rfl (by decide) hv4 ?_
  refine en_segs [(29, .isub, [])] (by decide +kernel) (y := (30, [some (.ref a0), some (.int p1), some (.int v2), none, none], [.int (v3 - v4), .int v2, .ref (aP d 6 11 (cR c9 0 a0))], h)) rfl ?_
  obtain ⟨c6_5, hc6_5, hF⟩ := ob_some hF
  refine en_iast (by decide +kernel : u_at kl_114 30 = some (.iastore, [])) hW k1 rfl (by decide) hc6_5 (fun h hW => ?_)
  have hW : HW (mkw c0 c1 c2 c3 c4 c5 c6_5 c7 c8 c9 c10 c11 c12 c13) d h := hW
  refine en_segs [(31, .iconst 0, []), (32, .istore_n 3, [])] (by decide +kernel) (y := (33, [some (.ref a0), some (.int p1), some (.int v2), some (.int 0), none], [], h)) rfl ?_
  refine en_fg (fg_k (fg_k (fg_d (fg_k (fg_k fg_0))))) ?_
  exact (g_114 (D := D) hD ha0 _ _ _ _ _ _ hF).1 _ _ rfl rfl rfl rfl  _ hW _ hQ
def G_115 (c6 : Cl) (c9 : Cl) (d : Ad) (a0 : Nat) (lab : Nat) (xs : List Int32) (ys : List Int64) (zs : List Nat) (c13 : Cl) : Option Cl := match lab, xs, ys, zs with
  | 0, [x1, x2, x3], [], [] =>
    if (cI c6 0 (cR c9 0 a0)) ≤ x3 then
    G_115 c6 c9 d a0 1 [x1, x2, 0] [] [] c13
    else
    ((if ((x1 >>> (x3 &&& 31)) &&& 1) = 1 then
    ald (cA c9 7 a0) 6 x3 >>= fun v6 =>
    some (x2 ||| v6)
    else
    some x2) : Option (Int32)) >>= fun (t3 : Int32) =>
    G_115 c6 c9 d a0 0 [x1, t3, x3 + 1] [] [] c13
  | 1, [x1, x2, x3], [], [] =>
    if (cI c6 0 (cR c9 0 a0)) ≤ x3 then
    some c13
    else
    ald (cA c9 8 a0) 6 x3 >>= fun v9 =>
    ((if (v9 &&& ((1 <<< (x3 &&& 31)) - 1)) = 0 then
    some 1
    else
    some 0) : Option (Int32)) >>= fun (t10 : Int32) =>
    ((if t10 = 0 then
    some c13
    else
    ald (cA c9 8 a0) 6 x3 >>= fun v15 =>
    if (x2 &&& v15) = 0 then
    some c13
    else
    ald (cA c9 8 a0) 6 x3 >>= fun v18 =>
    ldl (cB c13 0 (cR c9 6 a0)) (aN d (cR c9 6 a0)) (x2 &&& v18) >>= fun v19 =>
    ldl (cB c13 0 (cR c9 5 a0)) (aN d (cR c9 5 a0)) x1 >>= fun v21 =>
    stl c13 0 (cR c9 6 a0) (aN d (cR c9 6 a0)) (x2 &&& v18) (v19 + v21) >>= fun c13_22 =>
    some c13_22) : Option (Cl)) >>= fun (t12 : Cl) =>
    G_115 c6 c9 d a0 1 [x1, x2, x3 + 1] [] [] t12
  | _, _, _, _ => none
partial_fixpoint
set_option maxRecDepth 100000 in
set_option maxHeartbeats 4000000 in
theorem g_115 {D : Nat} (hD : 1 ≤ D + 1) {c0 c1 c2 c3 c4 c5 c6 c7 c8 c9 c10 c11 c12 : Cl} {d : Ad} {a0 : Nat} (ha0 : aK d a0 = (0, 9, 0)) : ∀ (lab : Nat) (xs : List Int32) (ys : List Int64) (zs : List Nat) (c13 : Cl) (r : Cl), G_115 c6 c9 d a0 lab xs ys zs c13 = some r →
    (∀ (x1 : Int32) (x2 : Int32) (x3 : Int32), lab = 0 → xs = [x1, x2, x3] → ys = [] → zs = [] → ∀ h : UH, HW (mkw c0 c1 c2 c3 c4 c5 c6 c7 c8 c9 c10 c11 c12 c13) d h → ∀ QQ : UR → Prop, (∀ h' : UH, HW (mkw c0 c1 c2 c3 c4 c5 c6 c7 c8 c9 c10 c11 c12 r) d h' → QQ (none, h')) → Ends (EX D) (u_at kl_115) (4, [some (.ref a0), some (.int x1), some (.int x2), some (.int x3), none], [], h) QQ) ∧
    (∀ (x1 : Int32) (x2 : Int32) (x3 : Int32), lab = 1 → xs = [x1, x2, x3] → ys = [] → zs = [] → ∀ h : UH, HW (mkw c0 c1 c2 c3 c4 c5 c6 c7 c8 c9 c10 c11 c12 c13) d h → ∀ QQ : UR → Prop, (∀ h' : UH, HW (mkw c0 c1 c2 c3 c4 c5 c6 c7 c8 c9 c10 c11 c12 r) d h' → QQ (none, h')) → Ends (EX D) (u_at kl_115) (41, [some (.ref a0), some (.int x1), some (.int x2), some (.int x3), none], [], h) QQ) := by
  refine G_115.partial_correctness _ _ _ _ (motive := fun lab xs ys zs c13 r =>
    (∀ (x1 : Int32) (x2 : Int32) (x3 : Int32), lab = 0 → xs = [x1, x2, x3] → ys = [] → zs = [] → ∀ h : UH, HW (mkw c0 c1 c2 c3 c4 c5 c6 c7 c8 c9 c10 c11 c12 c13) d h → ∀ QQ : UR → Prop, (∀ h' : UH, HW (mkw c0 c1 c2 c3 c4 c5 c6 c7 c8 c9 c10 c11 c12 r) d h' → QQ (none, h')) → Ends (EX D) (u_at kl_115) (4, [some (.ref a0), some (.int x1), some (.int x2), some (.int x3), none], [], h) QQ) ∧
    (∀ (x1 : Int32) (x2 : Int32) (x3 : Int32), lab = 1 → xs = [x1, x2, x3] → ys = [] → zs = [] → ∀ h : UH, HW (mkw c0 c1 c2 c3 c4 c5 c6 c7 c8 c9 c10 c11 c12 c13) d h → ∀ QQ : UR → Prop, (∀ h' : UH, HW (mkw c0 c1 c2 c3 c4 c5 c6 c7 c8 c9 c10 c11 c12 r) d h' → QQ (none, h')) → Ends (EX D) (u_at kl_115) (41, [some (.ref a0), some (.int x1), some (.int x2), some (.int x3), none], [], h) QQ)) ?_
  intro G ih lab xs ys zs c13 r hF
  refine ⟨?_, ?_⟩
  · intro x1 x2 x3 e1 e2 e3 e4 h hW QQ hQ
    subst e1 e2 e3 e4
    refine en_segs [(4, .iload_n 3, []), (5, .aload_n 0, [])] (by decide +kernel) (y := (6, [some (.ref a0), some (.int x1), some (.int x2), some (.int x3), none], [.ref a0, .int x3], h)) rfl ?_
    have k1 : aK d (cR c9 0 a0) = (0, 6, 0) := wf_obj hW ha0 (by decide) rfl
    refine en_get (by decide +kernel : u_at kl_115 6 = some (.getfield 34, [9, 0])) hW ha0 (by decide) rfl ?_
    refine en_get (by decide +kernel : u_at kl_115 9 = some (.getfield 51, [6, 0])) hW k1 (by decide) rfl ?_
    refine en_ic_ge (by decide +kernel : u_at kl_115 12 = some (.if_icmp .ge 27, [39])) (fun b2 => ?_) (fun b2 => ?_)
    · replace hF := i_pos b2 hF
      refine en_segs [(39, .iconst 0, []), (40, .istore_n 3, [])] (by decide +kernel) (y := (41, [some (.ref a0), some (.int x1), some (.int x2), some (.int 0), none], [], h)) rfl ?_
      exact (ih _ _ _ _ _ _ hF).2 _ _ _ rfl rfl rfl rfl  _ hW _ hQ
    · replace hF := i_neg b2 hF
      refine en_segs [(15, .iload_n 1, []), (16, .iload_n 3, []), (17, .ishr, []), (18, .iconst 1, []), (19, .iand, []), (20, .iconst 1, [])] (by decide +kernel) (y := (21, [some (.ref a0), some (.int x1), some (.int x2), some (.int x3), none], [.int 1, .int ((x1 >>> (x3 &&& 31)) &&& 1)], h)) rfl ?_
      obtain ⟨t3, hX, hK⟩ := ob_some hF
      have j4 : ∀ h : UH, HW (mkw c0 c1 c2 c3 c4 c5 c6 c7 c8 c9 c10 c11 c12 c13) d h → Ends (EX D) (u_at kl_115) (33, [some (.ref a0), some (.int x1), some (.int t3), some (.int x3), none], [], h) QQ := by
        intro h hW
        have hF := hK
        refine en_segs [(33, .iinc 3 1, []), (36, .goto (-32), [4])] (by decide +kernel) (y := (4, [some (.ref a0), some (.int x1), some (.int t3), some (.int (x3 + 1)), none], [], h)) rfl ?_
        exact (ih _ _ _ _ _ _ hF).1 _ _ _ rfl rfl rfl rfl  _ hW _ hQ
      have hF := hX
      refine en_ic_ne (by decide +kernel : u_at kl_115 21 = some (.if_icmp .ne 12, [33])) (fun b5 => ?_) (fun b5 => ?_)
      · replace hF := i_pos b5 hF
        refine en_segs [(24, .iload_n 2, []), (25, .aload_n 0, [])] (by decide +kernel) (y := (26, [some (.ref a0), some (.int x1), some (.int x2), some (.int x3), none], [.ref a0, .int x2], h)) rfl ?_
        refine en_get (by decide +kernel : u_at kl_115 26 = some (.getfield 28, [9, 7])) hW ha0 (by decide) rfl ?_
        refine en_segs [(29, .iload_n 3, [])] (by decide +kernel) (y := (30, [some (.ref a0), some (.int x1), some (.int x2), some (.int x3), none], [.int x3, .ref (aP d 9 7 a0), .int x2], h)) rfl ?_
        obtain ⟨v6, hv6, hF⟩ := ob_some hF
        refine en_iald (by decide +kernel : u_at kl_115 30 = some (.iaload, [])) hW ha0 rfl (by decide) hv6 ?_
        refine en_segs [(31, .ior, []), (32, .istore_n 2, [])] (by decide +kernel) (y := (33, [some (.ref a0), some (.int x1), some (.int (x2 ||| v6)), some (.int x3), none], [], h)) rfl ?_
        obtain rfl := Option.some.inj hF
        exact j4 _ hW
      · replace hF := i_neg b5 hF
        obtain rfl := Option.some.inj hF
        exact j4 _ hW
  · intro x1 x2 x3 e1 e2 e3 e4 h hW QQ hQ
    subst e1 e2 e3 e4
    refine en_segs [(41, .iload_n 3, []), (42, .aload_n 0, [])] (by decide +kernel) (y := (43, [some (.ref a0), some (.int x1), some (.int x2), some (.int x3), none], [.ref a0, .int x3], h)) rfl ?_
    have k7 : aK d (cR c9 0 a0) = (0, 6, 0) := wf_obj hW ha0 (by decide) rfl
    refine en_get (by decide +kernel : u_at kl_115 43 = some (.getfield 34, [9, 0])) hW ha0 (by decide) rfl ?_
    refine en_get (by decide +kernel : u_at kl_115 46 = some (.getfield 51, [6, 0])) hW k7 (by decide) rfl ?_
    refine en_ic_ge (by decide +kernel : u_at kl_115 49 = some (.if_icmp .ge 69, [118])) (fun b8 => ?_) (fun b8 => ?_)
    · replace hF := i_pos b8 hF
      obtain rfl := Option.some.inj hF
      exact en_ret (by decide +kernel : u_at kl_115 118 = some (.return_, [])) rfl (hQ _ hW)
    · replace hF := i_neg b8 hF
      refine en_segs [(52, .aload_n 0, [])] (by decide +kernel) (y := (53, [some (.ref a0), some (.int x1), some (.int x2), some (.int x3), none], [.ref a0], h)) rfl ?_
      refine en_get (by decide +kernel : u_at kl_115 53 = some (.getfield 31, [9, 8])) hW ha0 (by decide) rfl ?_
      refine en_segs [(56, .iload_n 3, [])] (by decide +kernel) (y := (57, [some (.ref a0), some (.int x1), some (.int x2), some (.int x3), none], [.int x3, .ref (aP d 9 8 a0)], h)) rfl ?_
      obtain ⟨v9, hv9, hF⟩ := ob_some hF
      refine en_iald (by decide +kernel : u_at kl_115 57 = some (.iaload, [])) hW ha0 rfl (by decide) hv9 ?_
      refine en_segs [(58, .iconst 1, []), (59, .iload_n 3, []), (60, .ishl, []), (61, .iconst 1, []), (62, .isub, []), (63, .iand, [])] (by decide +kernel) (y := (64, [some (.ref a0), some (.int x1), some (.int x2), some (.int x3), none], [.int (v9 &&& ((1 <<< (x3 &&& 31)) - 1))], h)) rfl ?_
      obtain ⟨t10, hX, hK⟩ := ob_some hF
      have j11 : ∀ h : UH, HW (mkw c0 c1 c2 c3 c4 c5 c6 c7 c8 c9 c10 c11 c12 c13) d h → Ends (EX D) (u_at kl_115) (72, [some (.ref a0), some (.int x1), some (.int x2), some (.int x3), none], [.int t10], h) QQ := by
        intro h hW
        have hF := hK
        refine en_segs [(72, .istore 4, []), (74, .iload 4, [])] (by decide +kernel) (y := (76, [some (.ref a0), some (.int x1), some (.int x2), some (.int x3), some (.int t10)], [.int t10], h)) rfl ?_
        obtain ⟨t12, hX, hK⟩ := ob_some hF
        have j13 : ∀ h : UH, HW (mkw c0 c1 c2 c3 c4 c5 c6 c7 c8 c9 c10 c11 c12 t12) d h → Ends (EX D) (u_at kl_115) (112, [some (.ref a0), some (.int x1), some (.int x2), some (.int x3), some (.int t10)], [], h) QQ := by
          intro h hW
          have hF := hK
          refine en_segs [(112, .iinc 3 1, []), (115, .goto (-74), [41])] (by decide +kernel) (y := (41, [some (.ref a0), some (.int x1), some (.int x2), some (.int (x3 + 1)), some (.int t10)], [], h)) rfl ?_
          refine en_fg (fg_k (fg_k (fg_k (fg_k (fg_d fg_0))))) ?_
          exact (ih _ _ _ _ _ _ hF).2 _ _ _ rfl rfl rfl rfl  _ hW _ hQ
        have hF := hX
        refine en_if_eq (by decide +kernel : u_at kl_115 76 = some (.ifCond .eq 36, [112])) (fun b14 => ?_) (fun b14 => ?_)
        · replace hF := i_pos b14 hF
          obtain rfl := Option.some.inj hF
          exact j13 _ hW
        · replace hF := i_neg b14 hF
          refine en_segs [(79, .iload_n 2, []), (80, .aload_n 0, [])] (by decide +kernel) (y := (81, [some (.ref a0), some (.int x1), some (.int x2), some (.int x3), some (.int t10)], [.ref a0, .int x2], h)) rfl ?_
          refine en_get (by decide +kernel : u_at kl_115 81 = some (.getfield 31, [9, 8])) hW ha0 (by decide) rfl ?_
          refine en_segs [(84, .iload_n 3, [])] (by decide +kernel) (y := (85, [some (.ref a0), some (.int x1), some (.int x2), some (.int x3), some (.int t10)], [.int x3, .ref (aP d 9 8 a0), .int x2], h)) rfl ?_
          obtain ⟨v15, hv15, hF⟩ := ob_some hF
          refine en_iald (by decide +kernel : u_at kl_115 85 = some (.iaload, [])) hW ha0 rfl (by decide) hv15 ?_
          refine en_segs [(86, .iand, [])] (by decide +kernel) (y := (87, [some (.ref a0), some (.int x1), some (.int x2), some (.int x3), some (.int t10)], [.int (x2 &&& v15)], h)) rfl ?_
          refine en_if_eq (by decide +kernel : u_at kl_115 87 = some (.ifCond .eq 25, [112])) (fun b16 => ?_) (fun b16 => ?_)
          · replace hF := i_pos b16 hF
            obtain rfl := Option.some.inj hF
            exact j13 _ hW
          · replace hF := i_neg b16 hF
            refine en_segs [(90, .aload_n 0, [])] (by decide +kernel) (y := (91, [some (.ref a0), some (.int x1), some (.int x2), some (.int x3), some (.int t10)], [.ref a0], h)) rfl ?_
            have k17 : aK d (cR c9 6 a0) = (2, 2, 0) := wf_free hW ha0 (by decide) rfl
            refine en_get (by decide +kernel : u_at kl_115 91 = some (.getfield 25, [9, 6])) hW ha0 (by decide) rfl ?_
            refine en_segs [(94, .iload_n 2, []), (95, .aload_n 0, [])] (by decide +kernel) (y := (96, [some (.ref a0), some (.int x1), some (.int x2), some (.int x3), some (.int t10)], [.ref a0, .int x2, .ref (cR c9 6 a0)], h)) rfl ?_
            refine en_get (by decide +kernel : u_at kl_115 96 = some (.getfield 31, [9, 8])) hW ha0 (by decide) rfl ?_
            refine en_segs [(99, .iload_n 3, [])] (by decide +kernel) (y := (100, [some (.ref a0), some (.int x1), some (.int x2), some (.int x3), some (.int t10)], [.int x3, .ref (aP d 9 8 a0), .int x2, .ref (cR c9 6 a0)], h)) rfl ?_
            obtain ⟨v18, hv18, hF⟩ := ob_some hF
            refine en_iald (by decide +kernel : u_at kl_115 100 = some (.iaload, [])) hW ha0 rfl (by decide) hv18 ?_
            refine en_segs [(101, .iand, []), (102, .dup2, [])] (by decide +kernel) (y := (103, [some (.ref a0), some (.int x1), some (.int x2), some (.int x3), some (.int t10)], [.int (x2 &&& v18), .ref (cR c9 6 a0), .int (x2 &&& v18), .ref (cR c9 6 a0)], h)) rfl ?_
            obtain ⟨v19, hv19, hF⟩ := ob_some hF
            refine en_flald (by decide +kernel : u_at kl_115 103 = some (.laload, [])) hW k17 hv19 ?_
            refine en_segs [(104, .aload_n 0, [])] (by decide +kernel) (y := (105, [some (.ref a0), some (.int x1), some (.int x2), some (.int x3), some (.int t10)], [.ref a0, .long v19, .int (x2 &&& v18), .ref (cR c9 6 a0)], h)) rfl ?_
            have k20 : aK d (cR c9 5 a0) = (2, 2, 0) := wf_free hW ha0 (by decide) rfl
            refine en_get (by decide +kernel : u_at kl_115 105 = some (.getfield 21, [9, 5])) hW ha0 (by decide) rfl ?_
            refine en_segs [(108, .iload_n 1, [])] (by decide +kernel) (y := (109, [some (.ref a0), some (.int x1), some (.int x2), some (.int x3), some (.int t10)], [.int x1, .ref (cR c9 5 a0), .long v19, .int (x2 &&& v18), .ref (cR c9 6 a0)], h)) rfl ?_
            obtain ⟨v21, hv21, hF⟩ := ob_some hF
            refine en_flald (by decide +kernel : u_at kl_115 109 = some (.laload, [])) hW k20 hv21 ?_
            refine en_segs [(110, .ladd, [])] (by decide +kernel) (y := (111, [some (.ref a0), some (.int x1), some (.int x2), some (.int x3), some (.int t10)], [.long (v19 + v21), .int (x2 &&& v18), .ref (cR c9 6 a0)], h)) rfl ?_
            obtain ⟨c13_22, hc13_22, hF⟩ := ob_some hF
            refine en_flast (by decide +kernel : u_at kl_115 111 = some (.lastore, [])) hW k17 hc13_22 (fun h hW => ?_)
            have hW : HW (mkw c0 c1 c2 c3 c4 c5 c6 c7 c8 c9 c10 c11 c12 c13_22) d h := hW
            obtain rfl := Option.some.inj hF
            exact j13 _ hW
      have hF := hX
      refine en_if_ne (by decide +kernel : u_at kl_115 64 = some (.ifCond .ne 7, [71])) (fun b23 => ?_) (fun b23 => ?_)
      · replace hF := i_pos b23 hF
        refine en_segs [(67, .iconst 1, []), (68, .goto 4, [72])] (by decide +kernel) (y := (72, [some (.ref a0), some (.int x1), some (.int x2), some (.int x3), none], [.int 1], h)) rfl ?_
        obtain rfl := Option.some.inj hF
        exact j11 _ hW
      · replace hF := i_neg b23 hF
        refine en_segs [(71, .iconst 0, [])] (by decide +kernel) (y := (72, [some (.ref a0), some (.int x1), some (.int x2), some (.int x3), none], [.int 0], h)) rfl ?_
        obtain rfl := Option.some.inj hF
        exact j11 _ hW
def F_115 (c6 : Cl) (c9 : Cl) (c13 : Cl) (d : Ad) (a0 : Nat) (p1 : Int32) : Option Cl :=
  G_115 c6 c9 d a0 0 [p1, 0, 0] [] [] c13
set_option maxRecDepth 100000 in
set_option maxHeartbeats 4000000 in
/-- HeadCounts$Watching.addRows -/
theorem e_115 {D : Nat} {c0 c1 c2 c3 c4 c5 c6 c7 c8 c9 c10 c11 c12 c13 : Cl} {d : Ad} {h : UH} {a0 : Nat} {p1 : Int32} {r : Cl} (hD : 1 ≤ D) (hW : HW (mkw c0 c1 c2 c3 c4 c5 c6 c7 c8 c9 c10 c11 c12 c13) d h) (ha0 : aK d a0 = (0, 9, 0)) (hF : F_115 c6 c9 c13 d a0 p1 = some r) : ∃ q, EX D 115 [.ref a0, .int p1] h q ∧ q.1 = none ∧ HW (mkw c0 c1 c2 c3 c4 c5 c6 c7 c8 c9 c10 c11 c12 r) d q.2 := by
  obtain ⟨D, rfl⟩ : ∃ E, D = E + 1 := ⟨D - 1, by omega⟩
  unfold F_115 at hF
  refine ex_in (kl := kl_115) (nL := 5) rfl (by decide +kernel) (Nat.le_of_ble_eq_true rfl) ?_
  obtain ⟨QQ, hQQ⟩ : ∃ QQ : UR → Prop, QQ = (fun q : UR => q.1 = none ∧ HW (mkw c0 c1 c2 c3 c4 c5 c6 c7 c8 c9 c10 c11 c12 r) d q.2) := ⟨_, rfl⟩
  rw [← hQQ]
  have hQ : ∀ h' : UH, HW (mkw c0 c1 c2 c3 c4 c5 c6 c7 c8 c9 c10 c11 c12 r) d h' → QQ (none, h') := fun h' p => by rw [hQQ]; exact ⟨rfl, p⟩
  clear hQQ
  show Ends (EX D) (u_at kl_115) (0, [some (.ref a0), some (.int p1), none, none, none], [], h) QQ
  refine en_segs [(0, .iconst 0, []), (1, .istore_n 2, []), (2, .iconst 0, []), (3, .istore_n 3, [])] (by decide +kernel) (y := (4, [some (.ref a0), some (.int p1), some (.int 0), some (.int 0), none], [], h)) rfl ?_
  exact (g_115 (D := D) hD ha0 _ _ _ _ _ _ hF).1 _ _ _ rfl rfl rfl rfl  _ hW _ hQ
def G_113 (c1 : Cl) (c6 : Cl) (c8 : Cl) (d : Ad) (a0 : Nat) (a1 : Nat) (lab : Nat) (xs : List Int32) (ys : List Int64) (zs : List Nat) (c9 : Cl) (c13 : Cl) : Option (Int64 × Cl × Cl × Cl) := match lab, xs, ys, zs with
  | 0, [x3, x4], [], [] =>
    if x3 ≤ x4 then
    G_113 c1 c6 c8 d a0 a1 2 [1] [0] [] c9 c13
    else
    some (sB c13 0 (cR c9 6 a0) (filf (aN d (cR c9 6 a0)) 0 (cB c13 0 (cR c9 6 a0)))) >>= fun c13_11 =>
    G_113 c1 c6 c8 d a0 a1 1 [x3, x4, 1] [] [] c9 c13_11
  | 1, [x3, x4, x5], [], [] =>
    if (1 <<< ((cI c6 0 (cR c9 0 a0)) &&& 31)) ≤ x5 then
    some (sR c9 5 a0 (cR c9 6 a0)) >>= fun c9_20 =>
    some (sR c9_20 6 a0 (cR c9 5 a0)) >>= fun c9_21 =>
    G_113 c1 c6 c8 d a0 a1 0 [x3, x4 + 1] [] [] c9_21 c13
    else
    ldl (cB c13 0 (cR c9 5 a0)) (aN d (cR c9 5 a0)) x5 >>= fun v23 =>
    ((if (lg_cmp v23 0) = 0 then
    some c13
    else
    F_115 c6 c9 c13 d a0 x5 >>= fun r27 =>
    some r27) : Option (Cl)) >>= fun (t24 : Cl) =>
    G_113 c1 c6 c8 d a0 a1 1 [x3, x4, x5 + 1] [] [] c9 t24
  | 2, [x6], [y4], [] =>
    if (1 <<< ((cI c6 0 (cR c9 0 a0)) &&& 31)) ≤ x6 then
    some (y4, c6, c9, c13)
    else
    ldl (cB c13 0 (cR c9 5 a0)) (aN d (cR c9 5 a0)) x6 >>= fun v15 =>
    G_113 c1 c6 c8 d a0 a1 2 [x6 + 1] [y4 + v15] [] c9 c13
  | _, _, _, _ => none
partial_fixpoint
set_option maxRecDepth 100000 in
set_option maxHeartbeats 4000000 in
theorem g_113 {D : Nat} (hD : 4 ≤ D + 1) {c0 c1 c2 c3 c4 c5 c6 c7 c8 c10 c11 c12 : Cl} {d : Ad} {a0 : Nat} {a1 : Nat} (ha0 : aK d a0 = (0, 9, 0)) (ha1 : aK d a1 = (0, 8, 0)) : ∀ (lab : Nat) (xs : List Int32) (ys : List Int64) (zs : List Nat) (c9 : Cl) (c13 : Cl) (r : (Int64 × Cl × Cl × Cl)), G_113 c1 c6 c8 d a0 a1 lab xs ys zs c9 c13 = some r →
    (∀ (x3 : Int32) (x4 : Int32), lab = 0 → xs = [x3, x4] → ys = [] → zs = [] → ∀ h : UH, HW (mkw c0 c1 c2 c3 c4 c5 c6 c7 c8 c9 c10 c11 c12 c13) d h → ∀ QQ : UR → Prop, (∀ h' : UH, HW (mkw c0 c1 c2 c3 c4 c5 r.2.1 c7 c8 r.2.2.1 c10 c11 c12 r.2.2.2) d h' → QQ (some (.long r.1), h')) → Ends (EX D) (u_at kl_113) (45, [some (.ref a0), none, none, some (.int x3), some (.int x4), none, none], [], h) QQ) ∧
    (∀ (x3 : Int32) (x4 : Int32) (x5 : Int32), lab = 1 → xs = [x3, x4, x5] → ys = [] → zs = [] → ∀ h : UH, HW (mkw c0 c1 c2 c3 c4 c5 c6 c7 c8 c9 c10 c11 c12 c13) d h → ∀ QQ : UR → Prop, (∀ h' : UH, HW (mkw c0 c1 c2 c3 c4 c5 r.2.1 c7 c8 r.2.2.1 c10 c11 c12 r.2.2.2) d h' → QQ (some (.long r.1), h')) → Ends (EX D) (u_at kl_113) (62, [some (.ref a0), none, none, some (.int x3), some (.int x4), some (.int x5), none], [], h) QQ) ∧
    (∀ (x6 : Int32) (y4 : Int64), lab = 2 → xs = [x6] → ys = [y4] → zs = [] → ∀ h : UH, HW (mkw c0 c1 c2 c3 c4 c5 c6 c7 c8 c9 c10 c11 c12 c13) d h → ∀ QQ : UR → Prop, (∀ h' : UH, HW (mkw c0 c1 c2 c3 c4 c5 r.2.1 c7 c8 r.2.2.1 c10 c11 c12 r.2.2.2) d h' → QQ (some (.long r.1), h')) → Ends (EX D) (u_at kl_113) (132, [some (.ref a0), none, none, none, some (.long y4), none, some (.int x6)], [], h) QQ) := by
  refine G_113.partial_correctness _ _ _ _ _ _ (motive := fun lab xs ys zs c9 c13 r =>
    (∀ (x3 : Int32) (x4 : Int32), lab = 0 → xs = [x3, x4] → ys = [] → zs = [] → ∀ h : UH, HW (mkw c0 c1 c2 c3 c4 c5 c6 c7 c8 c9 c10 c11 c12 c13) d h → ∀ QQ : UR → Prop, (∀ h' : UH, HW (mkw c0 c1 c2 c3 c4 c5 r.2.1 c7 c8 r.2.2.1 c10 c11 c12 r.2.2.2) d h' → QQ (some (.long r.1), h')) → Ends (EX D) (u_at kl_113) (45, [some (.ref a0), none, none, some (.int x3), some (.int x4), none, none], [], h) QQ) ∧
    (∀ (x3 : Int32) (x4 : Int32) (x5 : Int32), lab = 1 → xs = [x3, x4, x5] → ys = [] → zs = [] → ∀ h : UH, HW (mkw c0 c1 c2 c3 c4 c5 c6 c7 c8 c9 c10 c11 c12 c13) d h → ∀ QQ : UR → Prop, (∀ h' : UH, HW (mkw c0 c1 c2 c3 c4 c5 r.2.1 c7 c8 r.2.2.1 c10 c11 c12 r.2.2.2) d h' → QQ (some (.long r.1), h')) → Ends (EX D) (u_at kl_113) (62, [some (.ref a0), none, none, some (.int x3), some (.int x4), some (.int x5), none], [], h) QQ) ∧
    (∀ (x6 : Int32) (y4 : Int64), lab = 2 → xs = [x6] → ys = [y4] → zs = [] → ∀ h : UH, HW (mkw c0 c1 c2 c3 c4 c5 c6 c7 c8 c9 c10 c11 c12 c13) d h → ∀ QQ : UR → Prop, (∀ h' : UH, HW (mkw c0 c1 c2 c3 c4 c5 r.2.1 c7 c8 r.2.2.1 c10 c11 c12 r.2.2.2) d h' → QQ (some (.long r.1), h')) → Ends (EX D) (u_at kl_113) (132, [some (.ref a0), none, none, none, some (.long y4), none, some (.int x6)], [], h) QQ)) ?_
  intro G ih lab xs ys zs c9 c13 r hF
  refine ⟨?_, ?_, ?_⟩
  · intro x3 x4 e1 e2 e3 e4 h hW QQ hQ
    subst e1 e2 e3 e4
    refine en_segs [(45, .iload 4, []), (47, .iload_n 3, [])] (by decide +kernel) (y := (48, [some (.ref a0), none, none, some (.int x3), some (.int x4), none, none], [.int x3, .int x4], h)) rfl ?_
    refine en_ic_ge (by decide +kernel : u_at kl_113 48 = some (.if_icmp .ge 78, [126])) (fun b9 => ?_) (fun b9 => ?_)
    · replace hF := i_pos b9 hF
      refine en_segs [(126, .lconst 0, []), (127, .lstore 4, []), (129, .iconst 1, []), (130, .istore 6, [])] (by decide +kernel) (y := (132, [some (.ref a0), none, none, some (.int x3), some (.long 0), none, some (.int 1)], [], h)) rfl ?_
      refine en_fg (fg_k (fg_k (fg_k (fg_d (fg_k (fg_k (fg_k fg_0))))))) ?_
      exact (ih _ _ _ _ _ _ _ hF).2.2 _ _ rfl rfl rfl rfl  _ hW _ hQ
    · replace hF := i_neg b9 hF
      refine en_segs [(51, .aload_n 0, [])] (by decide +kernel) (y := (52, [some (.ref a0), none, none, some (.int x3), some (.int x4), none, none], [.ref a0], h)) rfl ?_
      have k10 : aK d (cR c9 6 a0) = (2, 2, 0) := wf_free hW ha0 (by decide) rfl
      refine en_get (by decide +kernel : u_at kl_113 52 = some (.getfield 25, [9, 6])) hW ha0 (by decide) rfl ?_
      refine en_segs [(55, .lconst 0, [])] (by decide +kernel) (y := (56, [some (.ref a0), none, none, some (.int x3), some (.int x4), none, none], [.long 0, .ref (cR c9 6 a0)], h)) rfl ?_
      obtain ⟨c13_11, hc13_11, hF⟩ := ob_some hF
      refine en_sv (r := []) (by decide +kernel : u_at kl_113 56 = some (.invokestatic 89, [303, 2])) rfl rfl (Nat.le_of_ble_eq_true rfl) (e_ffillL (D := D) (v := 0) (by omega) hW k10) (fun h hW => ?_)
      have hW : HW (mkw c0 c1 c2 c3 c4 c5 c6 c7 c8 c9 c10 c11 c12 c13_11) d h := by rw [← Option.some.inj hc13_11]; exact hW
      refine en_segs [(59, .iconst 1, []), (60, .istore 5, [])] (by decide +kernel) (y := (62, [some (.ref a0), none, none, some (.int x3), some (.int x4), some (.int 1), none], [], h)) rfl ?_
      exact (ih _ _ _ _ _ _ _ hF).2.1 _ _ _ rfl rfl rfl rfl  _ hW _ hQ
  · intro x3 x4 x5 e1 e2 e3 e4 h hW QQ hQ
    subst e1 e2 e3 e4
    refine en_segs [(62, .iload 5, []), (64, .iconst 1, []), (65, .aload_n 0, [])] (by decide +kernel) (y := (66, [some (.ref a0), none, none, some (.int x3), some (.int x4), some (.int x5), none], [.ref a0, .int 1, .int x5], h)) rfl ?_
    have k16 : aK d (cR c9 0 a0) = (0, 6, 0) := wf_obj hW ha0 (by decide) rfl
    refine en_get (by decide +kernel : u_at kl_113 66 = some (.getfield 34, [9, 0])) hW ha0 (by decide) rfl ?_
    refine en_get (by decide +kernel : u_at kl_113 69 = some (.getfield 51, [6, 0])) hW k16 (by decide) rfl ?_
    refine en_segs [(72, .ishl, [])] (by decide +kernel) (y := (73, [some (.ref a0), none, none, some (.int x3), some (.int x4), some (.int x5), none], [.int (1 <<< ((cI c6 0 (cR c9 0 a0)) &&& 31)), .int x5], h)) rfl ?_
    refine en_ic_ge (by decide +kernel : u_at kl_113 73 = some (.if_icmp .ge 27, [100])) (fun b17 => ?_) (fun b17 => ?_)
    · replace hF := i_pos b17 hF
      refine en_segs [(100, .aload_n 0, [])] (by decide +kernel) (y := (101, [some (.ref a0), none, none, some (.int x3), some (.int x4), some (.int x5), none], [.ref a0], h)) rfl ?_
      have k18 : aK d (cR c9 5 a0) = (2, 2, 0) := wf_free hW ha0 (by decide) rfl
      refine en_get (by decide +kernel : u_at kl_113 101 = some (.getfield 21, [9, 5])) hW ha0 (by decide) rfl ?_
      refine en_segs [(104, .astore 5, []), (106, .aload_n 0, []), (107, .aload_n 0, [])] (by decide +kernel) (y := (108, [some (.ref a0), none, none, some (.int x3), some (.int x4), some (.ref (cR c9 5 a0)), none], [.ref a0, .ref a0], h)) rfl ?_
      have k19 : aK d (cR c9 6 a0) = (2, 2, 0) := wf_free hW ha0 (by decide) rfl
      refine en_get (by decide +kernel : u_at kl_113 108 = some (.getfield 25, [9, 6])) hW ha0 (by decide) rfl ?_
      obtain ⟨c9_20, hc9_20, hF⟩ := ob_some hF
      refine en_putF (by decide +kernel : u_at kl_113 111 = some (.putfield 21, [9, 5, 3])) hW ha0 rfl (by decide) k19 rfl (fun h hW => ?_)
      have hW : HW (mkw c0 c1 c2 c3 c4 c5 c6 c7 c8 c9_20 c10 c11 c12 c13) d h := by rw [← Option.some.inj hc9_20]; exact hW
      refine en_segs [(114, .aload_n 0, []), (115, .aload 5, [])] (by decide +kernel) (y := (117, [some (.ref a0), none, none, some (.int x3), some (.int x4), some (.ref (cR c9 5 a0)), none], [.ref (cR c9 5 a0), .ref a0], h)) rfl ?_
      obtain ⟨c9_21, hc9_21, hF⟩ := ob_some hF
      refine en_putF (by decide +kernel : u_at kl_113 117 = some (.putfield 25, [9, 6, 3])) hW ha0 rfl (by decide) k18 rfl (fun h hW => ?_)
      have hW : HW (mkw c0 c1 c2 c3 c4 c5 c6 c7 c8 c9_21 c10 c11 c12 c13) d h := by rw [← Option.some.inj hc9_21]; exact hW
      refine en_segs [(120, .iinc 4 1, []), (123, .goto (-78), [45])] (by decide +kernel) (y := (45, [some (.ref a0), none, none, some (.int x3), some (.int (x4 + 1)), some (.ref (cR c9 5 a0)), none], [], h)) rfl ?_
      refine en_fg (fg_k (fg_k (fg_k (fg_k (fg_k (fg_d (fg_k fg_0))))))) ?_
      exact (ih _ _ _ _ _ _ _ hF).1 _ _ rfl rfl rfl rfl  _ hW _ hQ
    · replace hF := i_neg b17 hF
      refine en_segs [(76, .aload_n 0, [])] (by decide +kernel) (y := (77, [some (.ref a0), none, none, some (.int x3), some (.int x4), some (.int x5), none], [.ref a0], h)) rfl ?_
      have k22 : aK d (cR c9 5 a0) = (2, 2, 0) := wf_free hW ha0 (by decide) rfl
      refine en_get (by decide +kernel : u_at kl_113 77 = some (.getfield 21, [9, 5])) hW ha0 (by decide) rfl ?_
      refine en_segs [(80, .iload 5, [])] (by decide +kernel) (y := (82, [some (.ref a0), none, none, some (.int x3), some (.int x4), some (.int x5), none], [.int x5, .ref (cR c9 5 a0)], h)) rfl ?_
      obtain ⟨v23, hv23, hF⟩ := ob_some hF
      refine en_flald (by decide +kernel : u_at kl_113 82 = some (.laload, [])) hW k22 hv23 ?_
      refine en_segs [(83, .lconst 0, []), (84, .lcmp, [])] (by decide +kernel) (y := (85, [some (.ref a0), none, none, some (.int x3), some (.int x4), some (.int x5), none], [.int (lg_cmp v23 0)], h)) rfl ?_
      obtain ⟨t24, hX, hK⟩ := ob_some hF
      have j25 : ∀ h : UH, HW (mkw c0 c1 c2 c3 c4 c5 c6 c7 c8 c9 c10 c11 c12 t24) d h → Ends (EX D) (u_at kl_113) (94, [some (.ref a0), none, none, some (.int x3), some (.int x4), some (.int x5), none], [], h) QQ := by
        intro h hW
        have hF := hK
        refine en_segs [(94, .iinc 5 1, []), (97, .goto (-35), [62])] (by decide +kernel) (y := (62, [some (.ref a0), none, none, some (.int x3), some (.int x4), some (.int (x5 + 1)), none], [], h)) rfl ?_
        exact (ih _ _ _ _ _ _ _ hF).2.1 _ _ _ rfl rfl rfl rfl  _ hW _ hQ
      have hF := hX
      refine en_if_eq (by decide +kernel : u_at kl_113 85 = some (.ifCond .eq 9, [94])) (fun b26 => ?_) (fun b26 => ?_)
      · replace hF := i_pos b26 hF
        obtain rfl := Option.some.inj hF
        exact j25 _ hW
      · replace hF := i_neg b26 hF
        refine en_segs [(88, .aload_n 0, []), (89, .iload 5, [])] (by decide +kernel) (y := (91, [some (.ref a0), none, none, some (.int x3), some (.int x4), some (.int x5), none], [.int x5, .ref a0], h)) rfl ?_
        obtain ⟨r27, hr27, hF⟩ := ob_some hF
        refine en_vv (r := []) (by decide +kernel : u_at kl_113 91 = some (.invokevirtual 98, [115, 1, 9])) hW ha0 rfl rfl (Nat.le_of_ble_eq_true rfl) (e_115 (D := D) (by omega) hW ha0 hr27) (fun h hW => ?_)
        have hW : HW (mkw c0 c1 c2 c3 c4 c5 c6 c7 c8 c9 c10 c11 c12 r27) d h := hW
        obtain rfl := Option.some.inj hF
        exact j25 _ hW
  · intro x6 y4 e1 e2 e3 e4 h hW QQ hQ
    subst e1 e2 e3 e4
    refine en_segs [(132, .iload 6, []), (134, .iconst 1, []), (135, .aload_n 0, [])] (by decide +kernel) (y := (136, [some (.ref a0), none, none, none, some (.long y4), none, some (.int x6)], [.ref a0, .int 1, .int x6], h)) rfl ?_
    have k12 : aK d (cR c9 0 a0) = (0, 6, 0) := wf_obj hW ha0 (by decide) rfl
    refine en_get (by decide +kernel : u_at kl_113 136 = some (.getfield 34, [9, 0])) hW ha0 (by decide) rfl ?_
    refine en_get (by decide +kernel : u_at kl_113 139 = some (.getfield 51, [6, 0])) hW k12 (by decide) rfl ?_
    refine en_segs [(142, .ishl, [])] (by decide +kernel) (y := (143, [some (.ref a0), none, none, none, some (.long y4), none, some (.int x6)], [.int (1 <<< ((cI c6 0 (cR c9 0 a0)) &&& 31)), .int x6], h)) rfl ?_
    refine en_ic_ge (by decide +kernel : u_at kl_113 143 = some (.if_icmp .ge 21, [164])) (fun b13 => ?_) (fun b13 => ?_)
    · replace hF := i_pos b13 hF
      refine en_segs [(164, .lload 4, [])] (by decide +kernel) (y := (166, [some (.ref a0), none, none, none, some (.long y4), none, some (.int x6)], [.long y4], h)) rfl ?_
      obtain rfl := Option.some.inj hF
      exact en_ret (by decide +kernel : u_at kl_113 166 = some (.lreturn, [])) rfl (hQ _ hW)
    · replace hF := i_neg b13 hF
      refine en_segs [(146, .lload 4, []), (148, .aload_n 0, [])] (by decide +kernel) (y := (149, [some (.ref a0), none, none, none, some (.long y4), none, some (.int x6)], [.ref a0, .long y4], h)) rfl ?_
      have k14 : aK d (cR c9 5 a0) = (2, 2, 0) := wf_free hW ha0 (by decide) rfl
      refine en_get (by decide +kernel : u_at kl_113 149 = some (.getfield 21, [9, 5])) hW ha0 (by decide) rfl ?_
      refine en_segs [(152, .iload 6, [])] (by decide +kernel) (y := (154, [some (.ref a0), none, none, none, some (.long y4), none, some (.int x6)], [.int x6, .ref (cR c9 5 a0), .long y4], h)) rfl ?_
      obtain ⟨v15, hv15, hF⟩ := ob_some hF
      refine en_flald (by decide +kernel : u_at kl_113 154 = some (.laload, [])) hW k14 hv15 ?_
      refine en_segs [(155, .ladd, []), (156, .lstore 4, []), (158, .iinc 6 1, []), (161, .goto (-29), [132])] (by decide +kernel) (y := (132, [some (.ref a0), none, none, none, some (.long (y4 + v15)), none, some (.int (x6 + 1))], [], h)) rfl ?_
      exact (ih _ _ _ _ _ _ _ hF).2.2 _ _ rfl rfl rfl rfl  _ hW _ hQ
def F_113 (c1 : Cl) (c6 : Cl) (c8 : Cl) (c9 : Cl) (c13 : Cl) (d : Ad) (a0 : Nat) (a1 : Nat) (p2 : Int32) (p3 : Int32) : Option (Int64 × Cl × Cl × Cl) :=
  F_51 c1 c6 c8 (cR c9 0 a0) a1 >>= fun r2 =>
  F_61 r2 (cR c9 0 a0) p2 >>= fun r3 =>
  F_114 r2 c9 a0 r3 >>= fun r4 =>
  some (sB c13 0 (cR r4.2 5 a0) (filf (aN d (cR r4.2 5 a0)) 0 (cB c13 0 (cR r4.2 5 a0)))) >>= fun c13_6 =>
  ald (cA c8 4 a1) 6 p2 >>= fun v7 =>
  stl c13_6 0 (cR r4.2 5 a0) (aN d (cR r4.2 5 a0)) (1 <<< (v7 &&& 31)) 1 >>= fun c13_8 =>
  G_113 c1 r4.1 c8 d a0 a1 0 [p3, 0] [] [] r4.2 c13_8
set_option maxRecDepth 100000 in
set_option maxHeartbeats 4000000 in
/-- HeadCounts$Watching.rowsFelt -/
theorem e_113 {D : Nat} {c0 c1 c2 c3 c4 c5 c6 c7 c8 c9 c10 c11 c12 c13 : Cl} {d : Ad} {h : UH} {a0 : Nat} {a1 : Nat} {p2 : Int32} {p3 : Int32} {r : (Int64 × Cl × Cl × Cl)} (hD : 4 ≤ D) (hW : HW (mkw c0 c1 c2 c3 c4 c5 c6 c7 c8 c9 c10 c11 c12 c13) d h) (ha0 : aK d a0 = (0, 9, 0)) (ha1 : aK d a1 = (0, 8, 0)) (hF : F_113 c1 c6 c8 c9 c13 d a0 a1 p2 p3 = some r) : ∃ q, EX D 113 [.ref a0, .ref a1, .int p2, .int p3] h q ∧ q.1 = some (.long r.1) ∧ HW (mkw c0 c1 c2 c3 c4 c5 r.2.1 c7 c8 r.2.2.1 c10 c11 c12 r.2.2.2) d q.2 := by
  obtain ⟨D, rfl⟩ : ∃ E, D = E + 1 := ⟨D - 1, by omega⟩
  unfold F_113 at hF
  refine ex_in (kl := kl_113) (nL := 7) rfl (by decide +kernel) (Nat.le_of_ble_eq_true rfl) ?_
  obtain ⟨QQ, hQQ⟩ : ∃ QQ : UR → Prop, QQ = (fun q : UR => q.1 = some (.long r.1) ∧ HW (mkw c0 c1 c2 c3 c4 c5 r.2.1 c7 c8 r.2.2.1 c10 c11 c12 r.2.2.2) d q.2) := ⟨_, rfl⟩
  rw [← hQQ]
  have hQ : ∀ h' : UH, HW (mkw c0 c1 c2 c3 c4 c5 r.2.1 c7 c8 r.2.2.1 c10 c11 c12 r.2.2.2) d h' → QQ (some (.long r.1), h') := fun h' p => by rw [hQQ]; exact ⟨rfl, p⟩
  clear hQQ
  show Ends (EX D) (u_at kl_113) (0, [some (.ref a0), some (.ref a1), some (.int p2), some (.int p3), none, none, none], [], h) QQ
  refine en_segs [(0, .aload_n 0, [])] (by decide +kernel) (y := (1, [some (.ref a0), some (.ref a1), some (.int p2), some (.int p3), none, none, none], [.ref a0], h)) rfl ?_
  have k1 : aK d (cR c9 0 a0) = (0, 6, 0) := wf_obj hW ha0 (by decide) rfl
  refine en_get (by decide +kernel : u_at kl_113 1 = some (.getfield 34, [9, 0])) hW ha0 (by decide) rfl ?_
  refine en_segs [(4, .aload_n 1, [])] (by decide +kernel) (y := (5, [some (.ref a0), some (.ref a1), some (.int p2), some (.int p3), none, none, none], [.ref a1, .ref (cR c9 0 a0)], h)) rfl ?_
  obtain ⟨r2, hr2, hF⟩ := ob_some hF
  refine en_vv (r := []) (by decide +kernel : u_at kl_113 5 = some (.invokevirtual 38, [51, 1, 6])) hW k1 rfl rfl (Nat.le_of_ble_eq_true rfl) (e_51 (D := D) (by omega) hW k1 ha1 hr2) (fun h hW => ?_)
  have hW : HW (mkw c0 c1 c2 c3 c4 c5 r2 c7 c8 c9 c10 c11 c12 c13) d h := hW
  refine en_segs [(8, .aload_n 0, []), (9, .aload_n 0, [])] (by decide +kernel) (y := (10, [some (.ref a0), some (.ref a1), some (.int p2), some (.int p3), none, none, none], [.ref a0, .ref a0], h)) rfl ?_
  refine en_get (by decide +kernel : u_at kl_113 10 = some (.getfield 34, [9, 0])) hW ha0 (by decide) rfl ?_
  refine en_segs [(13, .iload_n 2, [])] (by decide +kernel) (y := (14, [some (.ref a0), some (.ref a1), some (.int p2), some (.int p3), none, none, none], [.int p2, .ref (cR c9 0 a0), .ref a0], h)) rfl ?_
  obtain ⟨r3, hr3, hF⟩ := ob_some hF
  refine en_vi (r := [.ref a0]) (by decide +kernel : u_at kl_113 14 = some (.invokevirtual 82, [61, 1, 6])) hW k1 rfl rfl (Nat.le_of_ble_eq_true rfl) (e_61 (D := D) (by omega) hW k1 hr3) (fun h' q => ?_)
  subst q
  obtain ⟨r4, hr4, hF⟩ := ob_some hF
  refine en_vv (r := []) (by decide +kernel : u_at kl_113 17 = some (.invokevirtual 85, [114, 1, 9])) hW ha0 rfl rfl (Nat.le_of_ble_eq_true rfl) (e_114 (D := D) (by omega) hW ha0 hr4) (fun h hW => ?_)
  have hW : HW (mkw c0 c1 c2 c3 c4 c5 r4.1 c7 c8 r4.2 c10 c11 c12 c13) d h := hW
  refine en_segs [(20, .aload_n 0, [])] (by decide +kernel) (y := (21, [some (.ref a0), some (.ref a1), some (.int p2), some (.int p3), none, none, none], [.ref a0], h)) rfl ?_
  have k5 : aK d (cR r4.2 5 a0) = (2, 2, 0) := wf_free hW ha0 (by decide) rfl
  refine en_get (by decide +kernel : u_at kl_113 21 = some (.getfield 21, [9, 5])) hW ha0 (by decide) rfl ?_
  refine en_segs [(24, .lconst 0, [])] (by decide +kernel) (y := (25, [some (.ref a0), some (.ref a1), some (.int p2), some (.int p3), none, none, none], [.long 0, .ref (cR r4.2 5 a0)], h)) rfl ?_
  obtain ⟨c13_6, hc13_6, hF⟩ := ob_some hF
  refine en_sv (r := []) (by decide +kernel : u_at kl_113 25 = some (.invokestatic 89, [303, 2])) rfl rfl (Nat.le_of_ble_eq_true rfl) (e_ffillL (D := D) (v := 0) (by omega) hW k5) (fun h hW => ?_)
  have hW : HW (mkw c0 c1 c2 c3 c4 c5 r4.1 c7 c8 r4.2 c10 c11 c12 c13_6) d h := by rw [← Option.some.inj hc13_6]; exact hW
  refine en_segs [(28, .aload_n 0, [])] (by decide +kernel) (y := (29, [some (.ref a0), some (.ref a1), some (.int p2), some (.int p3), none, none, none], [.ref a0], h)) rfl ?_
  refine en_get (by decide +kernel : u_at kl_113 29 = some (.getfield 21, [9, 5])) hW ha0 (by decide) rfl ?_
  refine en_segs [(32, .iconst 1, []), (33, .aload_n 1, [])] (by decide +kernel) (y := (34, [some (.ref a0), some (.ref a1), some (.int p2), some (.int p3), none, none, none], [.ref a1, .int 1, .ref (cR r4.2 5 a0)], h)) rfl ?_
  refine en_get (by decide +kernel : u_at kl_113 34 = some (.getfield 95, [8, 4])) hW ha1 (by decide) rfl ?_
  refine en_segs [(37, .iload_n 2, [])] (by decide +kernel) (y := (38, [some (.ref a0), some (.ref a1), some (.int p2), some (.int p3), none, none, none], [.int p2, .ref (aP d 8 4 a1), .int 1, .ref (cR r4.2 5 a0)], h)) rfl ?_
  obtain ⟨v7, hv7, hF⟩ := ob_some hF
  refine en_iald (by decide +kernel : u_at kl_113 38 = some (.iaload, [])) hW ha1 rfl (by decide) hv7 ?_
  refine en_segs [(39, .ishl, []), (40, .lconst 1, [])] (by decide +kernel) (y := (41, [some (.ref a0), some (.ref a1), some (.int p2), some (.int p3), none, none, none], [.long 1, .int (1 <<< (v7 &&& 31)), .ref (cR r4.2 5 a0)], h)) rfl ?_
  obtain ⟨c13_8, hc13_8, hF⟩ := ob_some hF
  refine en_flast (by decide +kernel : u_at kl_113 41 = some (.lastore, [])) hW k5 hc13_8 (fun h hW => ?_)
  have hW : HW (mkw c0 c1 c2 c3 c4 c5 r4.1 c7 c8 r4.2 c10 c11 c12 c13_8) d h := hW
  refine en_segs [(42, .iconst 0, []), (43, .istore 4, [])] (by decide +kernel) (y := (45, [some (.ref a0), some (.ref a1), some (.int p2), some (.int p3), some (.int 0), none, none], [], h)) rfl ?_
  refine en_fg (fg_k (fg_d (fg_d (fg_k (fg_k (fg_k (fg_k fg_0))))))) ?_
  exact (g_113 (D := D) hD ha0 ha1 _ _ _ _ _ _ _ hF).1 _ _ rfl rfl rfl rfl  _ hW _ hQ
def F_117 (c1 : Cl) (c8 : Cl) (c10 : Cl) (a0 : Nat) (a1 : Nat) : Option (Cl × Cl) :=
  F_81 c1 c8 (cR c10 0 a0) a1 >>= fun r2 =>
  some (sI c10 3 a0 0) >>= fun c10_3 =>
  some (sI c10_3 5 a0 0) >>= fun c10_4 =>
  some (r2, c10_4)
set_option maxRecDepth 100000 in
set_option maxHeartbeats 4000000 in
/-- HeadCounts$World.enter -/
theorem e_117 {D : Nat} {c0 c1 c2 c3 c4 c5 c6 c7 c8 c9 c10 c11 c12 c13 : Cl} {d : Ad} {h : UH} {a0 : Nat} {a1 : Nat} {r : (Cl × Cl)} (hD : 4 ≤ D) (hW : HW (mkw c0 c1 c2 c3 c4 c5 c6 c7 c8 c9 c10 c11 c12 c13) d h) (ha0 : aK d a0 = (0, 10, 0)) (ha1 : aK d a1 = (0, 1, 0)) (hF : F_117 c1 c8 c10 a0 a1 = some r) : ∃ q, EX D 117 [.ref a0, .ref a1] h q ∧ q.1 = none ∧ HW (mkw c0 c1 c2 c3 c4 c5 c6 c7 r.1 c9 r.2 c11 c12 c13) d q.2 := by
  obtain ⟨D, rfl⟩ : ∃ E, D = E + 1 := ⟨D - 1, by omega⟩
  unfold F_117 at hF
  refine ex_in (kl := kl_117) (nL := 2) rfl (by decide +kernel) (Nat.le_of_ble_eq_true rfl) ?_
  obtain ⟨QQ, hQQ⟩ : ∃ QQ : UR → Prop, QQ = (fun q : UR => q.1 = none ∧ HW (mkw c0 c1 c2 c3 c4 c5 c6 c7 r.1 c9 r.2 c11 c12 c13) d q.2) := ⟨_, rfl⟩
  rw [← hQQ]
  have hQ : ∀ h' : UH, HW (mkw c0 c1 c2 c3 c4 c5 c6 c7 r.1 c9 r.2 c11 c12 c13) d h' → QQ (none, h') := fun h' p => by rw [hQQ]; exact ⟨rfl, p⟩
  clear hQQ
  show Ends (EX D) (u_at kl_117) (0, [some (.ref a0), some (.ref a1)], [], h) QQ
  refine en_segs [(0, .aload_n 0, [])] (by decide +kernel) (y := (1, [some (.ref a0), some (.ref a1)], [.ref a0], h)) rfl ?_
  have k1 : aK d (cR c10 0 a0) = (0, 8, 0) := wf_obj hW ha0 (by decide) rfl
  refine en_get (by decide +kernel : u_at kl_117 1 = some (.getfield 30, [10, 0])) hW ha0 (by decide) rfl ?_
  refine en_segs [(4, .aload_n 1, [])] (by decide +kernel) (y := (5, [some (.ref a0), some (.ref a1)], [.ref a1, .ref (cR c10 0 a0)], h)) rfl ?_
  obtain ⟨r2, hr2, hF⟩ := ob_some hF
  refine en_vv (r := []) (by decide +kernel : u_at kl_117 5 = some (.invokevirtual 34, [81, 1, 8])) hW k1 rfl rfl (Nat.le_of_ble_eq_true rfl) (e_81 (D := D) (by omega) hW k1 ha1 hr2) (fun h hW => ?_)
  have hW : HW (mkw c0 c1 c2 c3 c4 c5 c6 c7 r2 c9 c10 c11 c12 c13) d h := hW
  refine en_segs [(8, .aload_n 0, []), (9, .iconst 0, [])] (by decide +kernel) (y := (10, [some (.ref a0), some (.ref a1)], [.int 0, .ref a0], h)) rfl ?_
  obtain ⟨c10_3, hc10_3, hF⟩ := ob_some hF
  refine en_putI (by decide +kernel : u_at kl_117 10 = some (.putfield 37, [10, 3, 0])) hW ha0 rfl (by decide) rfl (fun h hW => ?_)
  have hW : HW (mkw c0 c1 c2 c3 c4 c5 c6 c7 r2 c9 c10_3 c11 c12 c13) d h := by rw [← Option.some.inj hc10_3]; exact hW
  refine en_segs [(13, .aload_n 0, []), (14, .iconst 0, [])] (by decide +kernel) (y := (15, [some (.ref a0), some (.ref a1)], [.int 0, .ref a0], h)) rfl ?_
  obtain ⟨c10_4, hc10_4, hF⟩ := ob_some hF
  refine en_putI (by decide +kernel : u_at kl_117 15 = some (.putfield 41, [10, 5, 0])) hW ha0 rfl (by decide) rfl (fun h hW => ?_)
  have hW : HW (mkw c0 c1 c2 c3 c4 c5 c6 c7 r2 c9 c10_4 c11 c12 c13) d h := by rw [← Option.some.inj hc10_4]; exact hW
  obtain rfl := Option.some.inj hF
  exact en_ret (by decide +kernel : u_at kl_117 18 = some (.return_, [])) rfl (hQ _ hW)
def G_118 (c10 : Cl) (a0 : Nat) (a1 : Nat) (lab : Nat) (xs : List Int32) (ys : List Int64) (zs : List Nat) (c8 : Cl) : Option (Cl × Cl) := match lab, xs, ys, zs with
  | 0, [x2], [], [] =>
    if (cI c10 3 a0) ≤ x2 then
    some (sI c10 4 a0 (cI c10 4 a1)) >>= fun c10_7 =>
    some (sI c10_7 5 a0 (cI c10_7 5 a1)) >>= fun c10_8 =>
    cpi c10_8 c10_8 6 a1 12 6 a0 12 0 0 12 >>= fun c10_9 =>
    cpi c10_9 c10_9 7 a1 12 7 a0 12 0 0 12 >>= fun c10_10 =>
    cpi c10_10 c10_10 8 a1 12 8 a0 12 0 0 12 >>= fun c10_11 =>
    some (c8, c10_11)
    else
    irm ((cI c10 2 a0) + x2) 20 >>= fun v12 =>
    ldq (cQ c10 1 a0) 20 v12 >>= fun v13 =>
    ldq (cQ c10 1 a1) 20 v12 >>= fun v14 =>
    v13 >>= fun o15 =>
    v14 >>= fun o17 =>
    F_82 c8 o15 o17 >>= fun r19 =>
    G_118 c10 a0 a1 0 [x2 + 1] [] [] r19
  | _, _, _, _ => none
partial_fixpoint
set_option maxRecDepth 100000 in
set_option maxHeartbeats 4000000 in
theorem g_118 {D : Nat} (hD : 2 ≤ D + 1) {c0 c1 c2 c3 c4 c5 c6 c7 c9 c10 c11 c12 c13 : Cl} {d : Ad} {a0 : Nat} {a1 : Nat} (ha0 : aK d a0 = (0, 10, 0)) (ha1 : aK d a1 = (0, 10, 0)) : ∀ (lab : Nat) (xs : List Int32) (ys : List Int64) (zs : List Nat) (c8 : Cl) (r : (Cl × Cl)), G_118 c10 a0 a1 lab xs ys zs c8 = some r →
    (∀ (x2 : Int32), lab = 0 → xs = [x2] → ys = [] → zs = [] → ∀ h : UH, HW (mkw c0 c1 c2 c3 c4 c5 c6 c7 c8 c9 c10 c11 c12 c13) d h → ∀ QQ : UR → Prop, (∀ h' : UH, HW (mkw c0 c1 c2 c3 c4 c5 c6 c7 r.1 c9 r.2 c11 c12 c13) d h' → QQ (none, h')) → Ends (EX D) (u_at kl_118) (29, [some (.ref a0), some (.ref a1), some (.int x2), none], [], h) QQ) := by
  refine G_118.partial_correctness _ _ _ (motive := fun lab xs ys zs c8 r =>
    (∀ (x2 : Int32), lab = 0 → xs = [x2] → ys = [] → zs = [] → ∀ h : UH, HW (mkw c0 c1 c2 c3 c4 c5 c6 c7 c8 c9 c10 c11 c12 c13) d h → ∀ QQ : UR → Prop, (∀ h' : UH, HW (mkw c0 c1 c2 c3 c4 c5 c6 c7 r.1 c9 r.2 c11 c12 c13) d h' → QQ (none, h')) → Ends (EX D) (u_at kl_118) (29, [some (.ref a0), some (.ref a1), some (.int x2), none], [], h) QQ)) ?_
  intro G ih lab xs ys zs c8 r hF
  · intro x2 e1 e2 e3 e4 h hW QQ hQ
    subst e1 e2 e3 e4
    refine en_segs [(29, .iload_n 2, []), (30, .aload_n 0, [])] (by decide +kernel) (y := (31, [some (.ref a0), some (.ref a1), some (.int x2), none], [.ref a0, .int x2], h)) rfl ?_
    refine en_get (by decide +kernel : u_at kl_118 31 = some (.getfield 37, [10, 3])) hW ha0 (by decide) rfl ?_
    refine en_ic_ge (by decide +kernel : u_at kl_118 34 = some (.if_icmp .ge 34, [68])) (fun b6 => ?_) (fun b6 => ?_)
    · replace hF := i_pos b6 hF
      refine en_segs [(68, .aload_n 0, []), (69, .aload_n 1, [])] (by decide +kernel) (y := (70, [some (.ref a0), some (.ref a1), some (.int x2), none], [.ref a1, .ref a0], h)) rfl ?_
      refine en_get (by decide +kernel : u_at kl_118 70 = some (.getfield 51, [10, 4])) hW ha1 (by decide) rfl ?_
      obtain ⟨c10_7, hc10_7, hF⟩ := ob_some hF
      refine en_putI (by decide +kernel : u_at kl_118 73 = some (.putfield 51, [10, 4, 0])) hW ha0 rfl (by decide) rfl (fun h hW => ?_)
      have hW : HW (mkw c0 c1 c2 c3 c4 c5 c6 c7 c8 c9 c10_7 c11 c12 c13) d h := by rw [← Option.some.inj hc10_7]; exact hW
      refine en_segs [(76, .aload_n 0, []), (77, .aload_n 1, [])] (by decide +kernel) (y := (78, [some (.ref a0), some (.ref a1), some (.int x2), none], [.ref a1, .ref a0], h)) rfl ?_
      refine en_get (by decide +kernel : u_at kl_118 78 = some (.getfield 41, [10, 5])) hW ha1 (by decide) rfl ?_
      obtain ⟨c10_8, hc10_8, hF⟩ := ob_some hF
      refine en_putI (by decide +kernel : u_at kl_118 81 = some (.putfield 41, [10, 5, 0])) hW ha0 rfl (by decide) rfl (fun h hW => ?_)
      have hW : HW (mkw c0 c1 c2 c3 c4 c5 c6 c7 c8 c9 c10_8 c11 c12 c13) d h := by rw [← Option.some.inj hc10_8]; exact hW
      refine en_segs [(84, .aload_n 1, [])] (by decide +kernel) (y := (85, [some (.ref a0), some (.ref a1), some (.int x2), none], [.ref a1], h)) rfl ?_
      refine en_get (by decide +kernel : u_at kl_118 85 = some (.getfield 17, [10, 6])) hW ha1 (by decide) rfl ?_
      refine en_segs [(88, .iconst 0, []), (89, .aload_n 0, [])] (by decide +kernel) (y := (90, [some (.ref a0), some (.ref a1), some (.int x2), none], [.ref a0, .int 0, .ref (aP d 10 6 a1)], h)) rfl ?_
      refine en_get (by decide +kernel : u_at kl_118 90 = some (.getfield 17, [10, 6])) hW ha0 (by decide) rfl ?_
      refine en_segs [(93, .iconst 0, []), (94, .bipush 12, [])] (by decide +kernel) (y := (96, [some (.ref a0), some (.ref a1), some (.int x2), none], [.int 12, .int 0, .ref (aP d 10 6 a0), .int 0, .ref (aP d 10 6 a1)], h)) rfl ?_
      obtain ⟨c10_9, hc10_9, hF⟩ := ob_some hF
      refine en_copy (by decide +kernel : u_at kl_118 96 = some (.invokestatic 54, [])) hW ha1 rfl (by decide) ha0 rfl (by decide) (Nat.le_of_ble_eq_true rfl) hc10_9 (fun h hW => ?_)
      have hW : HW (mkw c0 c1 c2 c3 c4 c5 c6 c7 c8 c9 c10_9 c11 c12 c13) d h := hW
      refine en_segs [(99, .aload_n 1, [])] (by decide +kernel) (y := (100, [some (.ref a0), some (.ref a1), some (.int x2), none], [.ref a1], h)) rfl ?_
      refine en_get (by decide +kernel : u_at kl_118 100 = some (.getfield 21, [10, 7])) hW ha1 (by decide) rfl ?_
      refine en_segs [(103, .iconst 0, []), (104, .aload_n 0, [])] (by decide +kernel) (y := (105, [some (.ref a0), some (.ref a1), some (.int x2), none], [.ref a0, .int 0, .ref (aP d 10 7 a1)], h)) rfl ?_
      refine en_get (by decide +kernel : u_at kl_118 105 = some (.getfield 21, [10, 7])) hW ha0 (by decide) rfl ?_
      refine en_segs [(108, .iconst 0, []), (109, .bipush 12, [])] (by decide +kernel) (y := (111, [some (.ref a0), some (.ref a1), some (.int x2), none], [.int 12, .int 0, .ref (aP d 10 7 a0), .int 0, .ref (aP d 10 7 a1)], h)) rfl ?_
      obtain ⟨c10_10, hc10_10, hF⟩ := ob_some hF
      refine en_copy (by decide +kernel : u_at kl_118 111 = some (.invokestatic 54, [])) hW ha1 rfl (by decide) ha0 rfl (by decide) (Nat.le_of_ble_eq_true rfl) hc10_10 (fun h hW => ?_)
      have hW : HW (mkw c0 c1 c2 c3 c4 c5 c6 c7 c8 c9 c10_10 c11 c12 c13) d h := hW
      refine en_segs [(114, .aload_n 1, [])] (by decide +kernel) (y := (115, [some (.ref a0), some (.ref a1), some (.int x2), none], [.ref a1], h)) rfl ?_
      refine en_get (by decide +kernel : u_at kl_118 115 = some (.getfield 24, [10, 8])) hW ha1 (by decide) rfl ?_
      refine en_segs [(118, .iconst 0, []), (119, .aload_n 0, [])] (by decide +kernel) (y := (120, [some (.ref a0), some (.ref a1), some (.int x2), none], [.ref a0, .int 0, .ref (aP d 10 8 a1)], h)) rfl ?_
      refine en_get (by decide +kernel : u_at kl_118 120 = some (.getfield 24, [10, 8])) hW ha0 (by decide) rfl ?_
      refine en_segs [(123, .iconst 0, []), (124, .bipush 12, [])] (by decide +kernel) (y := (126, [some (.ref a0), some (.ref a1), some (.int x2), none], [.int 12, .int 0, .ref (aP d 10 8 a0), .int 0, .ref (aP d 10 8 a1)], h)) rfl ?_
      obtain ⟨c10_11, hc10_11, hF⟩ := ob_some hF
      refine en_copy (by decide +kernel : u_at kl_118 126 = some (.invokestatic 54, [])) hW ha1 rfl (by decide) ha0 rfl (by decide) (Nat.le_of_ble_eq_true rfl) hc10_11 (fun h hW => ?_)
      have hW : HW (mkw c0 c1 c2 c3 c4 c5 c6 c7 c8 c9 c10_11 c11 c12 c13) d h := hW
      obtain rfl := Option.some.inj hF
      exact en_ret (by decide +kernel : u_at kl_118 129 = some (.return_, [])) rfl (hQ _ hW)
    · replace hF := i_neg b6 hF
      refine en_segs [(37, .aload_n 0, [])] (by decide +kernel) (y := (38, [some (.ref a0), some (.ref a1), some (.int x2), none], [.ref a0], h)) rfl ?_
      refine en_get (by decide +kernel : u_at kl_118 38 = some (.getfield 48, [10, 2])) hW ha0 (by decide) rfl ?_
      refine en_segs [(41, .iload_n 2, []), (42, .iadd, []), (43, .bipush 20, [])] (by decide +kernel) (y := (45, [some (.ref a0), some (.ref a1), some (.int x2), none], [.int 20, .int ((cI c10 2 a0) + x2)], h)) rfl ?_
      obtain ⟨v12, hv12, hF⟩ := ob_some hF
      refine en_irem (by decide +kernel : u_at kl_118 45 = some (.irem, [])) hv12 ?_
      refine en_segs [(46, .istore_n 3, []), (47, .aload_n 0, [])] (by decide +kernel) (y := (48, [some (.ref a0), some (.ref a1), some (.int x2), some (.int v12)], [.ref a0], h)) rfl ?_
      refine en_get (by decide +kernel : u_at kl_118 48 = some (.getfield 11, [10, 1])) hW ha0 (by decide) rfl ?_
      refine en_segs [(51, .iload_n 3, [])] (by decide +kernel) (y := (52, [some (.ref a0), some (.ref a1), some (.int x2), some (.int v12)], [.int v12, .ref (aP d 10 1 a0)], h)) rfl ?_
      obtain ⟨v13, hv13, hF⟩ := ob_some hF
      have ev13 : ∀ q, v13 = some q → aK d q = (0, 8, 0) := fun q e => wf_elem (t := 5) hW ha0 (by decide) rfl (by decide) ((ldq_some hv13).2.trans e)
      refine en_aald (by decide +kernel : u_at kl_118 52 = some (.aaload, [])) hW ha0 rfl (by decide) (by decide) hv13 ?_
      refine en_segs [(53, .aload_n 1, [])] (by decide +kernel) (y := (54, [some (.ref a0), some (.ref a1), some (.int x2), some (.int v12)], [.ref a1, va_rf v13], h)) rfl ?_
      refine en_get (by decide +kernel : u_at kl_118 54 = some (.getfield 11, [10, 1])) hW ha1 (by decide) rfl ?_
      refine en_segs [(57, .iload_n 3, [])] (by decide +kernel) (y := (58, [some (.ref a0), some (.ref a1), some (.int x2), some (.int v12)], [.int v12, .ref (aP d 10 1 a1), va_rf v13], h)) rfl ?_
      obtain ⟨v14, hv14, hF⟩ := ob_some hF
      have ev14 : ∀ q, v14 = some q → aK d q = (0, 8, 0) := fun q e => wf_elem (t := 5) hW ha1 (by decide) rfl (by decide) ((ldq_some hv14).2.trans e)
      refine en_aald (by decide +kernel : u_at kl_118 58 = some (.aaload, [])) hW ha1 rfl (by decide) (by decide) hv14 ?_
      obtain ⟨o15, ho15, hF⟩ := ob_some hF
      have k16 : aK d o15 = (0, 8, 0) := ev13 o15 ho15
      rw [ho15]
      obtain ⟨o17, ho17, hF⟩ := ob_some hF
      have k18 : aK d o17 = (0, 8, 0) := ev14 o17 ho17
      rw [ho17]
      obtain ⟨r19, hr19, hF⟩ := ob_some hF
      refine en_vv (r := []) (by decide +kernel : u_at kl_118 59 = some (.invokevirtual 44, [82, 1, 8])) hW k16 rfl rfl (Nat.le_of_ble_eq_true rfl) (e_82 (D := D) (by omega) hW k16 k18 hr19) (fun h hW => ?_)
      have hW : HW (mkw c0 c1 c2 c3 c4 c5 c6 c7 r19 c9 c10 c11 c12 c13) d h := hW
      refine en_segs [(62, .iinc 2 1, []), (65, .goto (-36), [29])] (by decide +kernel) (y := (29, [some (.ref a0), some (.ref a1), some (.int (x2 + 1)), some (.int v12)], [], h)) rfl ?_
      refine en_fg (fg_k (fg_k (fg_k (fg_d fg_0)))) ?_
      exact (ih _ _ _ _ _ _ hF) _ rfl rfl rfl rfl  _ hW _ hQ
def F_118 (c8 : Cl) (c10 : Cl) (a0 : Nat) (a1 : Nat) : Option (Cl × Cl) :=
  F_82 c8 (cR c10 0 a0) (cR c10 0 a1) >>= fun r3 =>
  some (sI c10 2 a0 (cI c10 2 a1)) >>= fun c10_4 =>
  some (sI c10_4 3 a0 (cI c10_4 3 a1)) >>= fun c10_5 =>
  G_118 c10_5 a0 a1 0 [0] [] [] r3
set_option maxRecDepth 100000 in
set_option maxHeartbeats 4000000 in
/-- HeadCounts$World.copyFrom -/
theorem e_118 {D : Nat} {c0 c1 c2 c3 c4 c5 c6 c7 c8 c9 c10 c11 c12 c13 : Cl} {d : Ad} {h : UH} {a0 : Nat} {a1 : Nat} {r : (Cl × Cl)} (hD : 2 ≤ D) (hW : HW (mkw c0 c1 c2 c3 c4 c5 c6 c7 c8 c9 c10 c11 c12 c13) d h) (ha0 : aK d a0 = (0, 10, 0)) (ha1 : aK d a1 = (0, 10, 0)) (hF : F_118 c8 c10 a0 a1 = some r) : ∃ q, EX D 118 [.ref a0, .ref a1] h q ∧ q.1 = none ∧ HW (mkw c0 c1 c2 c3 c4 c5 c6 c7 r.1 c9 r.2 c11 c12 c13) d q.2 := by
  obtain ⟨D, rfl⟩ : ∃ E, D = E + 1 := ⟨D - 1, by omega⟩
  unfold F_118 at hF
  refine ex_in (kl := kl_118) (nL := 4) rfl (by decide +kernel) (Nat.le_of_ble_eq_true rfl) ?_
  obtain ⟨QQ, hQQ⟩ : ∃ QQ : UR → Prop, QQ = (fun q : UR => q.1 = none ∧ HW (mkw c0 c1 c2 c3 c4 c5 c6 c7 r.1 c9 r.2 c11 c12 c13) d q.2) := ⟨_, rfl⟩
  rw [← hQQ]
  have hQ : ∀ h' : UH, HW (mkw c0 c1 c2 c3 c4 c5 c6 c7 r.1 c9 r.2 c11 c12 c13) d h' → QQ (none, h') := fun h' p => by rw [hQQ]; exact ⟨rfl, p⟩
  clear hQQ
  show Ends (EX D) (u_at kl_118) (0, [some (.ref a0), some (.ref a1), none, none], [], h) QQ
  refine en_segs [(0, .aload_n 0, [])] (by decide +kernel) (y := (1, [some (.ref a0), some (.ref a1), none, none], [.ref a0], h)) rfl ?_
  have k1 : aK d (cR c10 0 a0) = (0, 8, 0) := wf_obj hW ha0 (by decide) rfl
  refine en_get (by decide +kernel : u_at kl_118 1 = some (.getfield 30, [10, 0])) hW ha0 (by decide) rfl ?_
  refine en_segs [(4, .aload_n 1, [])] (by decide +kernel) (y := (5, [some (.ref a0), some (.ref a1), none, none], [.ref a1, .ref (cR c10 0 a0)], h)) rfl ?_
  have k2 : aK d (cR c10 0 a1) = (0, 8, 0) := wf_obj hW ha1 (by decide) rfl
  refine en_get (by decide +kernel : u_at kl_118 5 = some (.getfield 30, [10, 0])) hW ha1 (by decide) rfl ?_
  obtain ⟨r3, hr3, hF⟩ := ob_some hF
  refine en_vv (r := []) (by decide +kernel : u_at kl_118 8 = some (.invokevirtual 44, [82, 1, 8])) hW k1 rfl rfl (Nat.le_of_ble_eq_true rfl) (e_82 (D := D) (by omega) hW k1 k2 hr3) (fun h hW => ?_)
  have hW : HW (mkw c0 c1 c2 c3 c4 c5 c6 c7 r3 c9 c10 c11 c12 c13) d h := hW
  refine en_segs [(11, .aload_n 0, []), (12, .aload_n 1, [])] (by decide +kernel) (y := (13, [some (.ref a0), some (.ref a1), none, none], [.ref a1, .ref a0], h)) rfl ?_
  refine en_get (by decide +kernel : u_at kl_118 13 = some (.getfield 48, [10, 2])) hW ha1 (by decide) rfl ?_
  obtain ⟨c10_4, hc10_4, hF⟩ := ob_some hF
  refine en_putI (by decide +kernel : u_at kl_118 16 = some (.putfield 48, [10, 2, 0])) hW ha0 rfl (by decide) rfl (fun h hW => ?_)
  have hW : HW (mkw c0 c1 c2 c3 c4 c5 c6 c7 r3 c9 c10_4 c11 c12 c13) d h := by rw [← Option.some.inj hc10_4]; exact hW
  refine en_segs [(19, .aload_n 0, []), (20, .aload_n 1, [])] (by decide +kernel) (y := (21, [some (.ref a0), some (.ref a1), none, none], [.ref a1, .ref a0], h)) rfl ?_
  refine en_get (by decide +kernel : u_at kl_118 21 = some (.getfield 37, [10, 3])) hW ha1 (by decide) rfl ?_
  obtain ⟨c10_5, hc10_5, hF⟩ := ob_some hF
  refine en_putI (by decide +kernel : u_at kl_118 24 = some (.putfield 37, [10, 3, 0])) hW ha0 rfl (by decide) rfl (fun h hW => ?_)
  have hW : HW (mkw c0 c1 c2 c3 c4 c5 c6 c7 r3 c9 c10_5 c11 c12 c13) d h := by rw [← Option.some.inj hc10_5]; exact hW
  refine en_segs [(27, .iconst 0, []), (28, .istore_n 2, [])] (by decide +kernel) (y := (29, [some (.ref a0), some (.ref a1), some (.int 0), none], [], h)) rfl ?_
  exact (g_118 (D := D) hD ha0 ha1 _ _ _ _ _ _ hF) _ rfl rfl rfl rfl  _ hW _ hQ
def F_119 (c1 : Cl) (c8 : Cl) (c10 : Cl) (a0 : Nat) (p1 : Int32) (p2 : Int32) (p3 : Int32) : Option (Cl × Cl) :=
  irm ((cI c10 2 a0) + (cI c10 3 a0)) 20 >>= fun v1 =>
  ldq (cQ c10 1 a0) 20 v1 >>= fun v2 =>
  v2 >>= fun o4 =>
  F_82 c8 o4 (cR c10 0 a0) >>= fun r6 =>
  ((if 20 ≤ (cI c10 3 a0) then
  irm ((cI c10 2 a0) + 1) 20 >>= fun v12 =>
  some (sI c10 2 a0 v12) >>= fun c10_13 =>
  some c10_13
  else
  some (sI c10 3 a0 ((cI c10 3 a0) + 1)) >>= fun c10_14 =>
  some c10_14) : Option (Cl)) >>= fun (t7 : Cl) =>
  F_92 c1 r6 (cR t7 0 a0) p1 p2 p3 >>= fun r10 =>
  some (r10, t7)
set_option maxRecDepth 100000 in
set_option maxHeartbeats 4000000 in
/-- HeadCounts$World.passMinute -/
theorem e_119 {D : Nat} {c0 c1 c2 c3 c4 c5 c6 c7 c8 c9 c10 c11 c12 c13 : Cl} {d : Ad} {h : UH} {a0 : Nat} {p1 : Int32} {p2 : Int32} {p3 : Int32} {r : (Cl × Cl)} (hD : 4 ≤ D) (hW : HW (mkw c0 c1 c2 c3 c4 c5 c6 c7 c8 c9 c10 c11 c12 c13) d h) (ha0 : aK d a0 = (0, 10, 0)) (hF : F_119 c1 c8 c10 a0 p1 p2 p3 = some r) : ∃ q, EX D 119 [.ref a0, .int p1, .int p2, .int p3] h q ∧ q.1 = none ∧ HW (mkw c0 c1 c2 c3 c4 c5 c6 c7 r.1 c9 r.2 c11 c12 c13) d q.2 := by
  obtain ⟨D, rfl⟩ : ∃ E, D = E + 1 := ⟨D - 1, by omega⟩
  unfold F_119 at hF
  refine ex_in (kl := kl_119) (nL := 4) rfl (by decide +kernel) (Nat.le_of_ble_eq_true rfl) ?_
  obtain ⟨QQ, hQQ⟩ : ∃ QQ : UR → Prop, QQ = (fun q : UR => q.1 = none ∧ HW (mkw c0 c1 c2 c3 c4 c5 c6 c7 r.1 c9 r.2 c11 c12 c13) d q.2) := ⟨_, rfl⟩
  rw [← hQQ]
  have hQ : ∀ h' : UH, HW (mkw c0 c1 c2 c3 c4 c5 c6 c7 r.1 c9 r.2 c11 c12 c13) d h' → QQ (none, h') := fun h' p => by rw [hQQ]; exact ⟨rfl, p⟩
  clear hQQ
  show Ends (EX D) (u_at kl_119) (0, [some (.ref a0), some (.int p1), some (.int p2), some (.int p3)], [], h) QQ
  refine en_segs [(0, .aload_n 0, [])] (by decide +kernel) (y := (1, [some (.ref a0), some (.int p1), some (.int p2), some (.int p3)], [.ref a0], h)) rfl ?_
  refine en_get (by decide +kernel : u_at kl_119 1 = some (.getfield 11, [10, 1])) hW ha0 (by decide) rfl ?_
  refine en_segs [(4, .aload_n 0, [])] (by decide +kernel) (y := (5, [some (.ref a0), some (.int p1), some (.int p2), some (.int p3)], [.ref a0, .ref (aP d 10 1 a0)], h)) rfl ?_
  refine en_get (by decide +kernel : u_at kl_119 5 = some (.getfield 48, [10, 2])) hW ha0 (by decide) rfl ?_
  refine en_segs [(8, .aload_n 0, [])] (by decide +kernel) (y := (9, [some (.ref a0), some (.int p1), some (.int p2), some (.int p3)], [.ref a0, .int (cI c10 2 a0), .ref (aP d 10 1 a0)], h)) rfl ?_
  refine en_get (by decide +kernel : u_at kl_119 9 = some (.getfield 37, [10, 3])) hW ha0 (by decide) rfl ?_
  refine en_segs [(12, .iadd, []), (13, .bipush 20, [])] (by decide +kernel) (y := (15, [some (.ref a0), some (.int p1), some (.int p2), some (.int p3)], [.int 20, .int ((cI c10 2 a0) + (cI c10 3 a0)), .ref (aP d 10 1 a0)], h)) rfl ?_
  obtain ⟨v1, hv1, hF⟩ := ob_some hF
  refine en_irem (by decide +kernel : u_at kl_119 15 = some (.irem, [])) hv1 ?_
  obtain ⟨v2, hv2, hF⟩ := ob_some hF
  have ev2 : ∀ q, v2 = some q → aK d q = (0, 8, 0) := fun q e => wf_elem (t := 5) hW ha0 (by decide) rfl (by decide) ((ldq_some hv2).2.trans e)
  refine en_aald (by decide +kernel : u_at kl_119 16 = some (.aaload, [])) hW ha0 rfl (by decide) (by decide) hv2 ?_
  refine en_segs [(17, .aload_n 0, [])] (by decide +kernel) (y := (18, [some (.ref a0), some (.int p1), some (.int p2), some (.int p3)], [.ref a0, va_rf v2], h)) rfl ?_
  have k3 : aK d (cR c10 0 a0) = (0, 8, 0) := wf_obj hW ha0 (by decide) rfl
  refine en_get (by decide +kernel : u_at kl_119 18 = some (.getfield 30, [10, 0])) hW ha0 (by decide) rfl ?_
  obtain ⟨o4, ho4, hF⟩ := ob_some hF
  have k5 : aK d o4 = (0, 8, 0) := ev2 o4 ho4
  rw [ho4]
  obtain ⟨r6, hr6, hF⟩ := ob_some hF
  refine en_vv (r := []) (by decide +kernel : u_at kl_119 21 = some (.invokevirtual 44, [82, 1, 8])) hW k5 rfl rfl (Nat.le_of_ble_eq_true rfl) (e_82 (D := D) (by omega) hW k5 k3 hr6) (fun h hW => ?_)
  have hW : HW (mkw c0 c1 c2 c3 c4 c5 c6 c7 r6 c9 c10 c11 c12 c13) d h := hW
  refine en_segs [(24, .aload_n 0, [])] (by decide +kernel) (y := (25, [some (.ref a0), some (.int p1), some (.int p2), some (.int p3)], [.ref a0], h)) rfl ?_
  refine en_get (by decide +kernel : u_at kl_119 25 = some (.getfield 37, [10, 3])) hW ha0 (by decide) rfl ?_
  refine en_segs [(28, .bipush 20, [])] (by decide +kernel) (y := (30, [some (.ref a0), some (.int p1), some (.int p2), some (.int p3)], [.int 20, .int (cI c10 3 a0)], h)) rfl ?_
  obtain ⟨t7, hX, hK⟩ := ob_some hF
  have j8 : ∀ h : UH, HW (mkw c0 c1 c2 c3 c4 c5 c6 c7 r6 c9 t7 c11 c12 c13) d h → Ends (EX D) (u_at kl_119) (59, [some (.ref a0), some (.int p1), some (.int p2), some (.int p3)], [], h) QQ := by
    intro h hW
    have hF := hK
    refine en_segs [(59, .aload_n 0, [])] (by decide +kernel) (y := (60, [some (.ref a0), some (.int p1), some (.int p2), some (.int p3)], [.ref a0], h)) rfl ?_
    have k9 : aK d (cR t7 0 a0) = (0, 8, 0) := wf_obj hW ha0 (by decide) rfl
    refine en_get (by decide +kernel : u_at kl_119 60 = some (.getfield 30, [10, 0])) hW ha0 (by decide) rfl ?_
    refine en_segs [(63, .iload_n 1, []), (64, .iload_n 2, []), (65, .iload_n 3, [])] (by decide +kernel) (y := (66, [some (.ref a0), some (.int p1), some (.int p2), some (.int p3)], [.int p3, .int p2, .int p1, .ref (cR t7 0 a0)], h)) rfl ?_
    obtain ⟨r10, hr10, hF⟩ := ob_some hF
    refine en_vv (r := []) (by decide +kernel : u_at kl_119 66 = some (.invokevirtual 60, [92, 3, 8])) hW k9 rfl rfl (Nat.le_of_ble_eq_true rfl) (e_92 (D := D) (by omega) hW k9 hr10) (fun h hW => ?_)
    have hW : HW (mkw c0 c1 c2 c3 c4 c5 c6 c7 r10 c9 t7 c11 c12 c13) d h := hW
    obtain rfl := Option.some.inj hF
    exact en_ret (by decide +kernel : u_at kl_119 69 = some (.return_, [])) rfl (hQ _ hW)
  have hF := hX
  refine en_ic_ge (by decide +kernel : u_at kl_119 30 = some (.if_icmp .ge 16, [46])) (fun b11 => ?_) (fun b11 => ?_)
  · replace hF := i_pos b11 hF
    refine en_segs [(46, .aload_n 0, []), (47, .aload_n 0, [])] (by decide +kernel) (y := (48, [some (.ref a0), some (.int p1), some (.int p2), some (.int p3)], [.ref a0, .ref a0], h)) rfl ?_
    refine en_get (by decide +kernel : u_at kl_119 48 = some (.getfield 48, [10, 2])) hW ha0 (by decide) rfl ?_
    refine en_segs [(51, .iconst 1, []), (52, .iadd, []), (53, .bipush 20, [])] (by decide +kernel) (y := (55, [some (.ref a0), some (.int p1), some (.int p2), some (.int p3)], [.int 20, .int ((cI c10 2 a0) + 1), .ref a0], h)) rfl ?_
    obtain ⟨v12, hv12, hF⟩ := ob_some hF
    refine en_irem (by decide +kernel : u_at kl_119 55 = some (.irem, [])) hv12 ?_
    obtain ⟨c10_13, hc10_13, hF⟩ := ob_some hF
    refine en_putI (by decide +kernel : u_at kl_119 56 = some (.putfield 48, [10, 2, 0])) hW ha0 rfl (by decide) rfl (fun h hW => ?_)
    have hW : HW (mkw c0 c1 c2 c3 c4 c5 c6 c7 r6 c9 c10_13 c11 c12 c13) d h := by rw [← Option.some.inj hc10_13]; exact hW
    obtain rfl := Option.some.inj hF
    exact j8 _ hW
  · replace hF := i_neg b11 hF
    refine en_segs [(33, .aload_n 0, []), (34, .dup, [])] (by decide +kernel) (y := (35, [some (.ref a0), some (.int p1), some (.int p2), some (.int p3)], [.ref a0, .ref a0], h)) rfl ?_
    refine en_get (by decide +kernel : u_at kl_119 35 = some (.getfield 37, [10, 3])) hW ha0 (by decide) rfl ?_
    refine en_segs [(38, .iconst 1, []), (39, .iadd, [])] (by decide +kernel) (y := (40, [some (.ref a0), some (.int p1), some (.int p2), some (.int p3)], [.int ((cI c10 3 a0) + 1), .ref a0], h)) rfl ?_
    obtain ⟨c10_14, hc10_14, hF⟩ := ob_some hF
    refine en_putI (by decide +kernel : u_at kl_119 40 = some (.putfield 37, [10, 3, 0])) hW ha0 rfl (by decide) rfl (fun h hW => ?_)
    have hW : HW (mkw c0 c1 c2 c3 c4 c5 c6 c7 r6 c9 c10_14 c11 c12 c13) d h := by rw [← Option.some.inj hc10_14]; exact hW
    refine en_segs [(43, .goto 16, [59])] (by decide +kernel) (y := (59, [some (.ref a0), some (.int p1), some (.int p2), some (.int p3)], [], h)) rfl ?_
    obtain rfl := Option.some.inj hF
    exact j8 _ hW
def F_120 (c8 : Cl) (c10 : Cl) (a0 : Nat) : Option (Cl × Cl) :=
  ((if (cI c10 3 a0) ≤ 0 then
  some (c8, c10)
  else
  some (sI c10 3 a0 ((cI c10 3 a0) - 1)) >>= fun c10_4 =>
  irm ((cI c10_4 2 a0) + (cI c10_4 3 a0)) 20 >>= fun v6 =>
  ldq (cQ c10_4 1 a0) 20 v6 >>= fun v7 =>
  v7 >>= fun o8 =>
  F_82 c8 (cR c10_4 0 a0) o8 >>= fun r10 =>
  some (r10, c10_4)) : Option (Cl × Cl)) >>= fun (t1 : Cl × Cl) =>
  some (t1.1, t1.2)
set_option maxRecDepth 100000 in
set_option maxHeartbeats 4000000 in
/-- HeadCounts$World.takeBack -/
theorem e_120 {D : Nat} {c0 c1 c2 c3 c4 c5 c6 c7 c8 c9 c10 c11 c12 c13 : Cl} {d : Ad} {h : UH} {a0 : Nat} {r : (Cl × Cl)} (hD : 2 ≤ D) (hW : HW (mkw c0 c1 c2 c3 c4 c5 c6 c7 c8 c9 c10 c11 c12 c13) d h) (ha0 : aK d a0 = (0, 10, 0)) (hF : F_120 c8 c10 a0 = some r) : ∃ q, EX D 120 [.ref a0] h q ∧ q.1 = none ∧ HW (mkw c0 c1 c2 c3 c4 c5 c6 c7 r.1 c9 r.2 c11 c12 c13) d q.2 := by
  obtain ⟨D, rfl⟩ : ∃ E, D = E + 1 := ⟨D - 1, by omega⟩
  unfold F_120 at hF
  refine ex_in (kl := kl_120) (nL := 1) rfl (by decide +kernel) (Nat.le_of_ble_eq_true rfl) ?_
  obtain ⟨QQ, hQQ⟩ : ∃ QQ : UR → Prop, QQ = (fun q : UR => q.1 = none ∧ HW (mkw c0 c1 c2 c3 c4 c5 c6 c7 r.1 c9 r.2 c11 c12 c13) d q.2) := ⟨_, rfl⟩
  rw [← hQQ]
  have hQ : ∀ h' : UH, HW (mkw c0 c1 c2 c3 c4 c5 c6 c7 r.1 c9 r.2 c11 c12 c13) d h' → QQ (none, h') := fun h' p => by rw [hQQ]; exact ⟨rfl, p⟩
  clear hQQ
  show Ends (EX D) (u_at kl_120) (0, [some (.ref a0)], [], h) QQ
  refine en_segs [(0, .aload_n 0, [])] (by decide +kernel) (y := (1, [some (.ref a0)], [.ref a0], h)) rfl ?_
  refine en_get (by decide +kernel : u_at kl_120 1 = some (.getfield 37, [10, 3])) hW ha0 (by decide) rfl ?_
  obtain ⟨t1, hX, hK⟩ := ob_some hF
  have j2 : ∀ h : UH, HW (mkw c0 c1 c2 c3 c4 c5 c6 c7 t1.1 c9 t1.2 c11 c12 c13) d h → Ends (EX D) (u_at kl_120) (41, [some (.ref a0)], [], h) QQ := by
    intro h hW
    have hF := hK
    obtain rfl := Option.some.inj hF
    exact en_ret (by decide +kernel : u_at kl_120 41 = some (.return_, [])) rfl (hQ _ hW)
  have hF := hX
  refine en_if_le (by decide +kernel : u_at kl_120 4 = some (.ifCond .le 37, [41])) (fun b3 => ?_) (fun b3 => ?_)
  · replace hF := i_pos b3 hF
    obtain rfl := Option.some.inj hF
    exact j2 _ hW
  · replace hF := i_neg b3 hF
    refine en_segs [(7, .aload_n 0, []), (8, .dup, [])] (by decide +kernel) (y := (9, [some (.ref a0)], [.ref a0, .ref a0], h)) rfl ?_
    refine en_get (by decide +kernel : u_at kl_120 9 = some (.getfield 37, [10, 3])) hW ha0 (by decide) rfl ?_
    refine en_segs [(12, .iconst 1, []), (13, .isub, [])] (by decide +kernel) (y := (14, [some (.ref a0)], [.int ((cI c10 3 a0) - 1), .ref a0], h)) rfl ?_
    obtain ⟨c10_4, hc10_4, hF⟩ := ob_some hF
    refine en_putI (by decide +kernel : u_at kl_120 14 = some (.putfield 37, [10, 3, 0])) hW ha0 rfl (by decide) rfl (fun h hW => ?_)
    have hW : HW (mkw c0 c1 c2 c3 c4 c5 c6 c7 c8 c9 c10_4 c11 c12 c13) d h := by rw [← Option.some.inj hc10_4]; exact hW
    refine en_segs [(17, .aload_n 0, [])] (by decide +kernel) (y := (18, [some (.ref a0)], [.ref a0], h)) rfl ?_
    have k5 : aK d (cR c10_4 0 a0) = (0, 8, 0) := wf_obj hW ha0 (by decide) rfl
    refine en_get (by decide +kernel : u_at kl_120 18 = some (.getfield 30, [10, 0])) hW ha0 (by decide) rfl ?_
    refine en_segs [(21, .aload_n 0, [])] (by decide +kernel) (y := (22, [some (.ref a0)], [.ref a0, .ref (cR c10_4 0 a0)], h)) rfl ?_
    refine en_get (by decide +kernel : u_at kl_120 22 = some (.getfield 11, [10, 1])) hW ha0 (by decide) rfl ?_
    refine en_segs [(25, .aload_n 0, [])] (by decide +kernel) (y := (26, [some (.ref a0)], [.ref a0, .ref (aP d 10 1 a0), .ref (cR c10_4 0 a0)], h)) rfl ?_
    refine en_get (by decide +kernel : u_at kl_120 26 = some (.getfield 48, [10, 2])) hW ha0 (by decide) rfl ?_
    refine en_segs [(29, .aload_n 0, [])] (by decide +kernel) (y := (30, [some (.ref a0)], [.ref a0, .int (cI c10_4 2 a0), .ref (aP d 10 1 a0), .ref (cR c10_4 0 a0)], h)) rfl ?_
    refine en_get (by decide +kernel : u_at kl_120 30 = some (.getfield 37, [10, 3])) hW ha0 (by decide) rfl ?_
    refine en_segs [(33, .iadd, []), (34, .bipush 20, [])] (by decide +kernel) (y := (36, [some (.ref a0)], [.int 20, .int ((cI c10_4 2 a0) + (cI c10_4 3 a0)), .ref (aP d 10 1 a0), .ref (cR c10_4 0 a0)], h)) rfl ?_
    obtain ⟨v6, hv6, hF⟩ := ob_some hF
    refine en_irem (by decide +kernel : u_at kl_120 36 = some (.irem, [])) hv6 ?_
    obtain ⟨v7, hv7, hF⟩ := ob_some hF
    have ev7 : ∀ q, v7 = some q → aK d q = (0, 8, 0) := fun q e => wf_elem (t := 5) hW ha0 (by decide) rfl (by decide) ((ldq_some hv7).2.trans e)
    refine en_aald (by decide +kernel : u_at kl_120 37 = some (.aaload, [])) hW ha0 rfl (by decide) (by decide) hv7 ?_
    obtain ⟨o8, ho8, hF⟩ := ob_some hF
    have k9 : aK d o8 = (0, 8, 0) := ev7 o8 ho8
    rw [ho8]
    obtain ⟨r10, hr10, hF⟩ := ob_some hF
    refine en_vv (r := []) (by decide +kernel : u_at kl_120 38 = some (.invokevirtual 44, [82, 1, 8])) hW k5 rfl rfl (Nat.le_of_ble_eq_true rfl) (e_82 (D := D) (by omega) hW k5 k9 hr10) (fun h hW => ?_)
    have hW : HW (mkw c0 c1 c2 c3 c4 c5 c6 c7 r10 c9 c10_4 c11 c12 c13) d h := hW
    obtain rfl := Option.some.inj hF
    exact j2 _ hW
def F_121 (c10 : Cl) (a0 : Nat) (p1 : Int32) (p2 : Int32) (p3 : Int32) : Option Cl :=
  ((if 12 ≤ (cI c10 5 a0) then
  some c10
  else
  ast c10 6 a0 12 (cI c10 5 a0) p1 >>= fun c10_4 =>
  ast c10_4 7 a0 12 (cI c10_4 5 a0) p2 >>= fun c10_5 =>
  ast c10_5 8 a0 12 (cI c10_5 5 a0) p3 >>= fun c10_6 =>
  some (sI c10_6 5 a0 ((cI c10_6 5 a0) + 1)) >>= fun c10_7 =>
  some c10_7) : Option (Cl)) >>= fun (t1 : Cl) =>
  some t1
set_option maxRecDepth 100000 in
set_option maxHeartbeats 4000000 in
/-- HeadCounts$World.addTold -/
theorem e_121 {D : Nat} {c0 c1 c2 c3 c4 c5 c6 c7 c8 c9 c10 c11 c12 c13 : Cl} {d : Ad} {h : UH} {a0 : Nat} {p1 : Int32} {p2 : Int32} {p3 : Int32} {r : Cl} (hD : 1 ≤ D) (hW : HW (mkw c0 c1 c2 c3 c4 c5 c6 c7 c8 c9 c10 c11 c12 c13) d h) (ha0 : aK d a0 = (0, 10, 0)) (hF : F_121 c10 a0 p1 p2 p3 = some r) : ∃ q, EX D 121 [.ref a0, .int p1, .int p2, .int p3] h q ∧ q.1 = none ∧ HW (mkw c0 c1 c2 c3 c4 c5 c6 c7 c8 c9 r c11 c12 c13) d q.2 := by
  obtain ⟨D, rfl⟩ : ∃ E, D = E + 1 := ⟨D - 1, by omega⟩
  unfold F_121 at hF
  refine ex_in (kl := kl_121) (nL := 4) rfl (by decide +kernel) (Nat.le_of_ble_eq_true rfl) ?_
  obtain ⟨QQ, hQQ⟩ : ∃ QQ : UR → Prop, QQ = (fun q : UR => q.1 = none ∧ HW (mkw c0 c1 c2 c3 c4 c5 c6 c7 c8 c9 r c11 c12 c13) d q.2) := ⟨_, rfl⟩
  rw [← hQQ]
  have hQ : ∀ h' : UH, HW (mkw c0 c1 c2 c3 c4 c5 c6 c7 c8 c9 r c11 c12 c13) d h' → QQ (none, h') := fun h' p => by rw [hQQ]; exact ⟨rfl, p⟩
  clear hQQ
  show Ends (EX D) (u_at kl_121) (0, [some (.ref a0), some (.int p1), some (.int p2), some (.int p3)], [], h) QQ
  refine en_segs [(0, .aload_n 0, [])] (by decide +kernel) (y := (1, [some (.ref a0), some (.int p1), some (.int p2), some (.int p3)], [.ref a0], h)) rfl ?_
  refine en_get (by decide +kernel : u_at kl_121 1 = some (.getfield 41, [10, 5])) hW ha0 (by decide) rfl ?_
  refine en_segs [(4, .bipush 12, [])] (by decide +kernel) (y := (6, [some (.ref a0), some (.int p1), some (.int p2), some (.int p3)], [.int 12, .int (cI c10 5 a0)], h)) rfl ?_
  obtain ⟨t1, hX, hK⟩ := ob_some hF
  have j2 : ∀ h : UH, HW (mkw c0 c1 c2 c3 c4 c5 c6 c7 c8 c9 t1 c11 c12 c13) d h → Ends (EX D) (u_at kl_121) (49, [some (.ref a0), some (.int p1), some (.int p2), some (.int p3)], [], h) QQ := by
    intro h hW
    have hF := hK
    obtain rfl := Option.some.inj hF
    exact en_ret (by decide +kernel : u_at kl_121 49 = some (.return_, [])) rfl (hQ _ hW)
  have hF := hX
  refine en_ic_ge (by decide +kernel : u_at kl_121 6 = some (.if_icmp .ge 43, [49])) (fun b3 => ?_) (fun b3 => ?_)
  · replace hF := i_pos b3 hF
    obtain rfl := Option.some.inj hF
    exact j2 _ hW
  · replace hF := i_neg b3 hF
    refine en_segs [(9, .aload_n 0, [])] (by decide +kernel) (y := (10, [some (.ref a0), some (.int p1), some (.int p2), some (.int p3)], [.ref a0], h)) rfl ?_
    refine en_get (by decide +kernel : u_at kl_121 10 = some (.getfield 17, [10, 6])) hW ha0 (by decide) rfl ?_
    refine en_segs [(13, .aload_n 0, [])] (by decide +kernel) (y := (14, [some (.ref a0), some (.int p1), some (.int p2), some (.int p3)], [.ref a0, .ref (aP d 10 6 a0)], h)) rfl ?_
    refine en_get (by decide +kernel : u_at kl_121 14 = some (.getfield 41, [10, 5])) hW ha0 (by decide) rfl ?_
    refine en_segs [(17, .iload_n 1, [])] (by decide +kernel) (y := (18, [some (.ref a0), some (.int p1), some (.int p2), some (.int p3)], [.int p1, .int (cI c10 5 a0), .ref (aP d 10 6 a0)], h)) rfl ?_
    obtain ⟨c10_4, hc10_4, hF⟩ := ob_some hF
    refine en_iast (by decide +kernel : u_at kl_121 18 = some (.iastore, [])) hW ha0 rfl (by decide) hc10_4 (fun h hW => ?_)
    have hW : HW (mkw c0 c1 c2 c3 c4 c5 c6 c7 c8 c9 c10_4 c11 c12 c13) d h := hW
    refine en_segs [(19, .aload_n 0, [])] (by decide +kernel) (y := (20, [some (.ref a0), some (.int p1), some (.int p2), some (.int p3)], [.ref a0], h)) rfl ?_
    refine en_get (by decide +kernel : u_at kl_121 20 = some (.getfield 21, [10, 7])) hW ha0 (by decide) rfl ?_
    refine en_segs [(23, .aload_n 0, [])] (by decide +kernel) (y := (24, [some (.ref a0), some (.int p1), some (.int p2), some (.int p3)], [.ref a0, .ref (aP d 10 7 a0)], h)) rfl ?_
    refine en_get (by decide +kernel : u_at kl_121 24 = some (.getfield 41, [10, 5])) hW ha0 (by decide) rfl ?_
    refine en_segs [(27, .iload_n 2, [])] (by decide +kernel) (y := (28, [some (.ref a0), some (.int p1), some (.int p2), some (.int p3)], [.int p2, .int (cI c10_4 5 a0), .ref (aP d 10 7 a0)], h)) rfl ?_
    obtain ⟨c10_5, hc10_5, hF⟩ := ob_some hF
    refine en_iast (by decide +kernel : u_at kl_121 28 = some (.iastore, [])) hW ha0 rfl (by decide) hc10_5 (fun h hW => ?_)
    have hW : HW (mkw c0 c1 c2 c3 c4 c5 c6 c7 c8 c9 c10_5 c11 c12 c13) d h := hW
    refine en_segs [(29, .aload_n 0, [])] (by decide +kernel) (y := (30, [some (.ref a0), some (.int p1), some (.int p2), some (.int p3)], [.ref a0], h)) rfl ?_
    refine en_get (by decide +kernel : u_at kl_121 30 = some (.getfield 24, [10, 8])) hW ha0 (by decide) rfl ?_
    refine en_segs [(33, .aload_n 0, [])] (by decide +kernel) (y := (34, [some (.ref a0), some (.int p1), some (.int p2), some (.int p3)], [.ref a0, .ref (aP d 10 8 a0)], h)) rfl ?_
    refine en_get (by decide +kernel : u_at kl_121 34 = some (.getfield 41, [10, 5])) hW ha0 (by decide) rfl ?_
    refine en_segs [(37, .iload_n 3, [])] (by decide +kernel) (y := (38, [some (.ref a0), some (.int p1), some (.int p2), some (.int p3)], [.int p3, .int (cI c10_5 5 a0), .ref (aP d 10 8 a0)], h)) rfl ?_
    obtain ⟨c10_6, hc10_6, hF⟩ := ob_some hF
    refine en_iast (by decide +kernel : u_at kl_121 38 = some (.iastore, [])) hW ha0 rfl (by decide) hc10_6 (fun h hW => ?_)
    have hW : HW (mkw c0 c1 c2 c3 c4 c5 c6 c7 c8 c9 c10_6 c11 c12 c13) d h := hW
    refine en_segs [(39, .aload_n 0, []), (40, .dup, [])] (by decide +kernel) (y := (41, [some (.ref a0), some (.int p1), some (.int p2), some (.int p3)], [.ref a0, .ref a0], h)) rfl ?_
    refine en_get (by decide +kernel : u_at kl_121 41 = some (.getfield 41, [10, 5])) hW ha0 (by decide) rfl ?_
    refine en_segs [(44, .iconst 1, []), (45, .iadd, [])] (by decide +kernel) (y := (46, [some (.ref a0), some (.int p1), some (.int p2), some (.int p3)], [.int ((cI c10_6 5 a0) + 1), .ref a0], h)) rfl ?_
    obtain ⟨c10_7, hc10_7, hF⟩ := ob_some hF
    refine en_putI (by decide +kernel : u_at kl_121 46 = some (.putfield 41, [10, 5, 0])) hW ha0 rfl (by decide) rfl (fun h hW => ?_)
    have hW : HW (mkw c0 c1 c2 c3 c4 c5 c6 c7 c8 c9 c10_7 c11 c12 c13) d h := by rw [← Option.some.inj hc10_7]; exact hW
    obtain rfl := Option.some.inj hF
    exact j2 _ hW
def G_156 (a0 : Nat) (lab : Nat) (xs : List Int32) (ys : List Int64) (zs : List Nat) (c11 : Cl) : Option Cl := match lab, xs, ys, zs with
  | 0, [x1, x2], [], [] =>
    if x2 < 0 then
    some c11
    else
    ((if 400 ≤ (cI c11 1 a0) then
    some c11
    else
    ast c11 0 a0 400 (cI c11 1 a0) (vp_nar .byte ((x1 >>> (x2 &&& 31) : Int32).toInt8.toInt32)) >>= fun c11_5 =>
    some (sI c11_5 1 a0 ((cI c11_5 1 a0) + 1)) >>= fun c11_6 =>
    some c11_6) : Option (Cl)) >>= fun (t2 : Cl) =>
    G_156 a0 0 [x1, x2 + (-8)] [] [] t2
  | _, _, _, _ => none
partial_fixpoint
set_option maxRecDepth 100000 in
set_option maxHeartbeats 4000000 in
theorem g_156 {D : Nat} (hD : 1 ≤ D + 1) {c0 c1 c2 c3 c4 c5 c6 c7 c8 c9 c10 c12 c13 : Cl} {d : Ad} {a0 : Nat} (ha0 : aK d a0 = (0, 11, 0)) : ∀ (lab : Nat) (xs : List Int32) (ys : List Int64) (zs : List Nat) (c11 : Cl) (r : Cl), G_156 a0 lab xs ys zs c11 = some r →
    (∀ (x1 : Int32) (x2 : Int32), lab = 0 → xs = [x1, x2] → ys = [] → zs = [] → ∀ h : UH, HW (mkw c0 c1 c2 c3 c4 c5 c6 c7 c8 c9 c10 c11 c12 c13) d h → ∀ QQ : UR → Prop, (∀ h' : UH, HW (mkw c0 c1 c2 c3 c4 c5 c6 c7 c8 c9 c10 r c12 c13) d h' → QQ (none, h')) → Ends (EX D) (u_at kl_156) (3, [some (.ref a0), some (.int x1), some (.int x2)], [], h) QQ) := by
  refine G_156.partial_correctness _ (motive := fun lab xs ys zs c11 r =>
    (∀ (x1 : Int32) (x2 : Int32), lab = 0 → xs = [x1, x2] → ys = [] → zs = [] → ∀ h : UH, HW (mkw c0 c1 c2 c3 c4 c5 c6 c7 c8 c9 c10 c11 c12 c13) d h → ∀ QQ : UR → Prop, (∀ h' : UH, HW (mkw c0 c1 c2 c3 c4 c5 c6 c7 c8 c9 c10 r c12 c13) d h' → QQ (none, h')) → Ends (EX D) (u_at kl_156) (3, [some (.ref a0), some (.int x1), some (.int x2)], [], h) QQ)) ?_
  intro G ih lab xs ys zs c11 r hF
  · intro x1 x2 e1 e2 e3 e4 h hW QQ hQ
    subst e1 e2 e3 e4
    refine en_segs [(3, .iload_n 2, [])] (by decide +kernel) (y := (4, [some (.ref a0), some (.int x1), some (.int x2)], [.int x2], h)) rfl ?_
    refine en_if_lt (by decide +kernel : u_at kl_156 4 = some (.ifCond .lt 42, [46])) (fun b1 => ?_) (fun b1 => ?_)
    · replace hF := i_pos b1 hF
      obtain rfl := Option.some.inj hF
      exact en_ret (by decide +kernel : u_at kl_156 46 = some (.return_, [])) rfl (hQ _ hW)
    · replace hF := i_neg b1 hF
      refine en_segs [(7, .aload_n 0, [])] (by decide +kernel) (y := (8, [some (.ref a0), some (.int x1), some (.int x2)], [.ref a0], h)) rfl ?_
      refine en_get (by decide +kernel : u_at kl_156 8 = some (.getfield 104, [11, 1])) hW ha0 (by decide) rfl ?_
      refine en_segs [(11, .sipush 400, [])] (by decide +kernel) (y := (14, [some (.ref a0), some (.int x1), some (.int x2)], [.int 400, .int (cI c11 1 a0)], h)) rfl ?_
      obtain ⟨t2, hX, hK⟩ := ob_some hF
      have j3 : ∀ h : UH, HW (mkw c0 c1 c2 c3 c4 c5 c6 c7 c8 c9 c10 t2 c12 c13) d h → Ends (EX D) (u_at kl_156) (40, [some (.ref a0), some (.int x1), some (.int x2)], [], h) QQ := by
        intro h hW
        have hF := hK
        refine en_segs [(40, .iinc 2 (-8), []), (43, .goto (-40), [3])] (by decide +kernel) (y := (3, [some (.ref a0), some (.int x1), some (.int (x2 + (-8)))], [], h)) rfl ?_
        exact (ih _ _ _ _ _ _ hF) _ _ rfl rfl rfl rfl  _ hW _ hQ
      have hF := hX
      refine en_ic_ge (by decide +kernel : u_at kl_156 14 = some (.if_icmp .ge 26, [40])) (fun b4 => ?_) (fun b4 => ?_)
      · replace hF := i_pos b4 hF
        obtain rfl := Option.some.inj hF
        exact j3 _ hW
      · replace hF := i_neg b4 hF
        refine en_segs [(17, .aload_n 0, [])] (by decide +kernel) (y := (18, [some (.ref a0), some (.int x1), some (.int x2)], [.ref a0], h)) rfl ?_
        refine en_get (by decide +kernel : u_at kl_156 18 = some (.getfield 9, [11, 0])) hW ha0 (by decide) rfl ?_
        refine en_segs [(21, .aload_n 0, [])] (by decide +kernel) (y := (22, [some (.ref a0), some (.int x1), some (.int x2)], [.ref a0, .ref (aP d 11 0 a0)], h)) rfl ?_
        refine en_get (by decide +kernel : u_at kl_156 22 = some (.getfield 104, [11, 1])) hW ha0 (by decide) rfl ?_
        refine en_segs [(25, .iload_n 1, []), (26, .iload_n 2, []), (27, .ishr, []), (28, .i2b, [])] (by decide +kernel) (y := (29, [some (.ref a0), some (.int x1), some (.int x2)], [.int ((x1 >>> (x2 &&& 31) : Int32).toInt8.toInt32), .int (cI c11 1 a0), .ref (aP d 11 0 a0)], h)) rfl ?_
        obtain ⟨c11_5, hc11_5, hF⟩ := ob_some hF
        refine en_bast (by decide +kernel : u_at kl_156 29 = some (.bastore, [])) hW ha0 rfl (by decide) hc11_5 (fun h hW => ?_)
        have hW : HW (mkw c0 c1 c2 c3 c4 c5 c6 c7 c8 c9 c10 c11_5 c12 c13) d h := hW
        refine en_segs [(30, .aload_n 0, []), (31, .dup, [])] (by decide +kernel) (y := (32, [some (.ref a0), some (.int x1), some (.int x2)], [.ref a0, .ref a0], h)) rfl ?_
        refine en_get (by decide +kernel : u_at kl_156 32 = some (.getfield 104, [11, 1])) hW ha0 (by decide) rfl ?_
        refine en_segs [(35, .iconst 1, []), (36, .iadd, [])] (by decide +kernel) (y := (37, [some (.ref a0), some (.int x1), some (.int x2)], [.int ((cI c11_5 1 a0) + 1), .ref a0], h)) rfl ?_
        obtain ⟨c11_6, hc11_6, hF⟩ := ob_some hF
        refine en_putI (by decide +kernel : u_at kl_156 37 = some (.putfield 104, [11, 1, 0])) hW ha0 rfl (by decide) rfl (fun h hW => ?_)
        have hW : HW (mkw c0 c1 c2 c3 c4 c5 c6 c7 c8 c9 c10 c11_6 c12 c13) d h := by rw [← Option.some.inj hc11_6]; exact hW
        obtain rfl := Option.some.inj hF
        exact j3 _ hW
def F_156 (c11 : Cl) (a0 : Nat) (p1 : Int32) : Option Cl :=
  G_156 a0 0 [p1, 24] [] [] c11
set_option maxRecDepth 100000 in
set_option maxHeartbeats 4000000 in
/-- HeadCounts.putBytes -/
theorem e_156 {D : Nat} {c0 c1 c2 c3 c4 c5 c6 c7 c8 c9 c10 c11 c12 c13 : Cl} {d : Ad} {h : UH} {a0 : Nat} {p1 : Int32} {r : Cl} (hD : 1 ≤ D) (hW : HW (mkw c0 c1 c2 c3 c4 c5 c6 c7 c8 c9 c10 c11 c12 c13) d h) (ha0 : aK d a0 = (0, 11, 0)) (hF : F_156 c11 a0 p1 = some r) : ∃ q, EX D 156 [.ref a0, .int p1] h q ∧ q.1 = none ∧ HW (mkw c0 c1 c2 c3 c4 c5 c6 c7 c8 c9 c10 r c12 c13) d q.2 := by
  obtain ⟨D, rfl⟩ : ∃ E, D = E + 1 := ⟨D - 1, by omega⟩
  unfold F_156 at hF
  refine ex_in (kl := kl_156) (nL := 3) rfl (by decide +kernel) (Nat.le_of_ble_eq_true rfl) ?_
  obtain ⟨QQ, hQQ⟩ : ∃ QQ : UR → Prop, QQ = (fun q : UR => q.1 = none ∧ HW (mkw c0 c1 c2 c3 c4 c5 c6 c7 c8 c9 c10 r c12 c13) d q.2) := ⟨_, rfl⟩
  rw [← hQQ]
  have hQ : ∀ h' : UH, HW (mkw c0 c1 c2 c3 c4 c5 c6 c7 c8 c9 c10 r c12 c13) d h' → QQ (none, h') := fun h' p => by rw [hQQ]; exact ⟨rfl, p⟩
  clear hQQ
  show Ends (EX D) (u_at kl_156) (0, [some (.ref a0), some (.int p1), none], [], h) QQ
  refine en_segs [(0, .bipush 24, []), (2, .istore_n 2, [])] (by decide +kernel) (y := (3, [some (.ref a0), some (.int p1), some (.int 24)], [], h)) rfl ?_
  exact (g_156 (D := D) hD ha0 _ _ _ _ _ _ hF) _ _ rfl rfl rfl rfl  _ hW _ hQ
def F_123 (c11 : Cl) (a0 : Nat) (p1 : Int32) (p2 : Int32) (p3 : Int32) (p4 : Int32) (p5 : Int32) : Option (Int32 × Cl) :=
  if ((cI c11 1 a0) + 20) ≤ 400 then
  F_156 c11 a0 p1 >>= fun r2 =>
  F_156 r2 a0 p2 >>= fun r3 =>
  F_156 r3 a0 p3 >>= fun r4 =>
  F_156 r4 a0 p4 >>= fun r5 =>
  F_156 r5 a0 p5 >>= fun r6 =>
  some (cI r6 1 a0, r6)
  else
  some ((-1), c11)
set_option maxRecDepth 100000 in
set_option maxHeartbeats 4000000 in
/-- HeadCounts.feed -/
theorem e_123 {D : Nat} {c0 c1 c2 c3 c4 c5 c6 c7 c8 c9 c10 c11 c12 c13 : Cl} {d : Ad} {h : UH} {a0 : Nat} {p1 : Int32} {p2 : Int32} {p3 : Int32} {p4 : Int32} {p5 : Int32} {r : (Int32 × Cl)} (hD : 2 ≤ D) (hW : HW (mkw c0 c1 c2 c3 c4 c5 c6 c7 c8 c9 c10 c11 c12 c13) d h) (ha0 : aK d a0 = (0, 11, 0)) (hF : F_123 c11 a0 p1 p2 p3 p4 p5 = some r) : ∃ q, EX D 123 [.ref a0, .int p1, .int p2, .int p3, .int p4, .int p5] h q ∧ q.1 = some (.int r.1) ∧ HW (mkw c0 c1 c2 c3 c4 c5 c6 c7 c8 c9 c10 r.2 c12 c13) d q.2 := by
  obtain ⟨D, rfl⟩ : ∃ E, D = E + 1 := ⟨D - 1, by omega⟩
  unfold F_123 at hF
  refine ex_in (kl := kl_123) (nL := 6) rfl (by decide +kernel) (Nat.le_of_ble_eq_true rfl) ?_
  obtain ⟨QQ, hQQ⟩ : ∃ QQ : UR → Prop, QQ = (fun q : UR => q.1 = some (.int r.1) ∧ HW (mkw c0 c1 c2 c3 c4 c5 c6 c7 c8 c9 c10 r.2 c12 c13) d q.2) := ⟨_, rfl⟩
  rw [← hQQ]
  have hQ : ∀ h' : UH, HW (mkw c0 c1 c2 c3 c4 c5 c6 c7 c8 c9 c10 r.2 c12 c13) d h' → QQ (some (.int r.1), h') := fun h' p => by rw [hQQ]; exact ⟨rfl, p⟩
  clear hQQ
  show Ends (EX D) (u_at kl_123) (0, [some (.ref a0), some (.int p1), some (.int p2), some (.int p3), some (.int p4), some (.int p5)], [], h) QQ
  refine en_segs [(0, .aload_n 0, [])] (by decide +kernel) (y := (1, [some (.ref a0), some (.int p1), some (.int p2), some (.int p3), some (.int p4), some (.int p5)], [.ref a0], h)) rfl ?_
  refine en_get (by decide +kernel : u_at kl_123 1 = some (.getfield 104, [11, 1])) hW ha0 (by decide) rfl ?_
  refine en_segs [(4, .bipush 20, []), (6, .iadd, []), (7, .sipush 400, [])] (by decide +kernel) (y := (10, [some (.ref a0), some (.int p1), some (.int p2), some (.int p3), some (.int p4), some (.int p5)], [.int 400, .int ((cI c11 1 a0) + 20)], h)) rfl ?_
  refine en_ic_le (by decide +kernel : u_at kl_123 10 = some (.if_icmp .le 5, [15])) (fun b1 => ?_) (fun b1 => ?_)
  · replace hF := i_pos b1 hF
    refine en_segs [(15, .aload_n 0, []), (16, .iload_n 1, [])] (by decide +kernel) (y := (17, [some (.ref a0), some (.int p1), some (.int p2), some (.int p3), some (.int p4), some (.int p5)], [.int p1, .ref a0], h)) rfl ?_
    obtain ⟨r2, hr2, hF⟩ := ob_some hF
    refine en_vv (r := []) (by decide +kernel : u_at kl_123 17 = some (.invokevirtual 108, [156, 1, 11])) hW ha0 rfl rfl (Nat.le_of_ble_eq_true rfl) (e_156 (D := D) (by omega) hW ha0 hr2) (fun h hW => ?_)
    have hW : HW (mkw c0 c1 c2 c3 c4 c5 c6 c7 c8 c9 c10 r2 c12 c13) d h := hW
    refine en_segs [(20, .aload_n 0, []), (21, .iload_n 2, [])] (by decide +kernel) (y := (22, [some (.ref a0), some (.int p1), some (.int p2), some (.int p3), some (.int p4), some (.int p5)], [.int p2, .ref a0], h)) rfl ?_
    obtain ⟨r3, hr3, hF⟩ := ob_some hF
    refine en_vv (r := []) (by decide +kernel : u_at kl_123 22 = some (.invokevirtual 108, [156, 1, 11])) hW ha0 rfl rfl (Nat.le_of_ble_eq_true rfl) (e_156 (D := D) (by omega) hW ha0 hr3) (fun h hW => ?_)
    have hW : HW (mkw c0 c1 c2 c3 c4 c5 c6 c7 c8 c9 c10 r3 c12 c13) d h := hW
    refine en_segs [(25, .aload_n 0, []), (26, .iload_n 3, [])] (by decide +kernel) (y := (27, [some (.ref a0), some (.int p1), some (.int p2), some (.int p3), some (.int p4), some (.int p5)], [.int p3, .ref a0], h)) rfl ?_
    obtain ⟨r4, hr4, hF⟩ := ob_some hF
    refine en_vv (r := []) (by decide +kernel : u_at kl_123 27 = some (.invokevirtual 108, [156, 1, 11])) hW ha0 rfl rfl (Nat.le_of_ble_eq_true rfl) (e_156 (D := D) (by omega) hW ha0 hr4) (fun h hW => ?_)
    have hW : HW (mkw c0 c1 c2 c3 c4 c5 c6 c7 c8 c9 c10 r4 c12 c13) d h := hW
    refine en_segs [(30, .aload_n 0, []), (31, .iload 4, [])] (by decide +kernel) (y := (33, [some (.ref a0), some (.int p1), some (.int p2), some (.int p3), some (.int p4), some (.int p5)], [.int p4, .ref a0], h)) rfl ?_
    obtain ⟨r5, hr5, hF⟩ := ob_some hF
    refine en_vv (r := []) (by decide +kernel : u_at kl_123 33 = some (.invokevirtual 108, [156, 1, 11])) hW ha0 rfl rfl (Nat.le_of_ble_eq_true rfl) (e_156 (D := D) (by omega) hW ha0 hr5) (fun h hW => ?_)
    have hW : HW (mkw c0 c1 c2 c3 c4 c5 c6 c7 c8 c9 c10 r5 c12 c13) d h := hW
    refine en_segs [(36, .aload_n 0, []), (37, .iload 5, [])] (by decide +kernel) (y := (39, [some (.ref a0), some (.int p1), some (.int p2), some (.int p3), some (.int p4), some (.int p5)], [.int p5, .ref a0], h)) rfl ?_
    obtain ⟨r6, hr6, hF⟩ := ob_some hF
    refine en_vv (r := []) (by decide +kernel : u_at kl_123 39 = some (.invokevirtual 108, [156, 1, 11])) hW ha0 rfl rfl (Nat.le_of_ble_eq_true rfl) (e_156 (D := D) (by omega) hW ha0 hr6) (fun h hW => ?_)
    have hW : HW (mkw c0 c1 c2 c3 c4 c5 c6 c7 c8 c9 c10 r6 c12 c13) d h := hW
    refine en_segs [(42, .aload_n 0, [])] (by decide +kernel) (y := (43, [some (.ref a0), some (.int p1), some (.int p2), some (.int p3), some (.int p4), some (.int p5)], [.ref a0], h)) rfl ?_
    refine en_get (by decide +kernel : u_at kl_123 43 = some (.getfield 104, [11, 1])) hW ha0 (by decide) rfl ?_
    obtain rfl := Option.some.inj hF
    exact en_ret (by decide +kernel : u_at kl_123 46 = some (.ireturn, [0])) rfl (hQ _ hW)
  · replace hF := i_neg b1 hF
    refine en_segs [(13, .iconst (-1), [])] (by decide +kernel) (y := (14, [some (.ref a0), some (.int p1), some (.int p2), some (.int p3), some (.int p4), some (.int p5)], [.int (-1)], h)) rfl ?_
    obtain rfl := Option.some.inj hF
    exact en_ret (by decide +kernel : u_at kl_123 14 = some (.ireturn, [0])) rfl (hQ _ hW)
def F_124 (c11 : Cl) (a0 : Nat) (p1 : Int32) : Option (Int32 × Cl) :=
  if p1 < 0 then
  some ((-1), c11)
  else
  if p1 ≤ (cI c11 1 a0) then
  some (sI c11 1 a0 p1) >>= fun c11_3 =>
  some (p1, c11_3)
  else
  some ((-1), c11)
set_option maxRecDepth 100000 in
set_option maxHeartbeats 4000000 in
/-- HeadCounts.end -/
theorem e_124 {D : Nat} {c0 c1 c2 c3 c4 c5 c6 c7 c8 c9 c10 c11 c12 c13 : Cl} {d : Ad} {h : UH} {a0 : Nat} {p1 : Int32} {r : (Int32 × Cl)} (hD : 1 ≤ D) (hW : HW (mkw c0 c1 c2 c3 c4 c5 c6 c7 c8 c9 c10 c11 c12 c13) d h) (ha0 : aK d a0 = (0, 11, 0)) (hF : F_124 c11 a0 p1 = some r) : ∃ q, EX D 124 [.ref a0, .int p1] h q ∧ q.1 = some (.int r.1) ∧ HW (mkw c0 c1 c2 c3 c4 c5 c6 c7 c8 c9 c10 r.2 c12 c13) d q.2 := by
  obtain ⟨D, rfl⟩ : ∃ E, D = E + 1 := ⟨D - 1, by omega⟩
  unfold F_124 at hF
  refine ex_in (kl := kl_124) (nL := 2) rfl (by decide +kernel) (Nat.le_of_ble_eq_true rfl) ?_
  obtain ⟨QQ, hQQ⟩ : ∃ QQ : UR → Prop, QQ = (fun q : UR => q.1 = some (.int r.1) ∧ HW (mkw c0 c1 c2 c3 c4 c5 c6 c7 c8 c9 c10 r.2 c12 c13) d q.2) := ⟨_, rfl⟩
  rw [← hQQ]
  have hQ : ∀ h' : UH, HW (mkw c0 c1 c2 c3 c4 c5 c6 c7 c8 c9 c10 r.2 c12 c13) d h' → QQ (some (.int r.1), h') := fun h' p => by rw [hQQ]; exact ⟨rfl, p⟩
  clear hQQ
  show Ends (EX D) (u_at kl_124) (0, [some (.ref a0), some (.int p1)], [], h) QQ
  refine en_segs [(0, .iload_n 1, [])] (by decide +kernel) (y := (1, [some (.ref a0), some (.int p1)], [.int p1], h)) rfl ?_
  refine en_if_lt (by decide +kernel : u_at kl_124 1 = some (.ifCond .lt 11, [12])) (fun b1 => ?_) (fun b1 => ?_)
  · replace hF := i_pos b1 hF
    refine en_segs [(12, .iconst (-1), [])] (by decide +kernel) (y := (13, [some (.ref a0), some (.int p1)], [.int (-1)], h)) rfl ?_
    obtain rfl := Option.some.inj hF
    exact en_ret (by decide +kernel : u_at kl_124 13 = some (.ireturn, [0])) rfl (hQ _ hW)
  · replace hF := i_neg b1 hF
    refine en_segs [(4, .iload_n 1, []), (5, .aload_n 0, [])] (by decide +kernel) (y := (6, [some (.ref a0), some (.int p1)], [.ref a0, .int p1], h)) rfl ?_
    refine en_get (by decide +kernel : u_at kl_124 6 = some (.getfield 104, [11, 1])) hW ha0 (by decide) rfl ?_
    refine en_ic_le (by decide +kernel : u_at kl_124 9 = some (.if_icmp .le 5, [14])) (fun b2 => ?_) (fun b2 => ?_)
    · replace hF := i_pos b2 hF
      refine en_segs [(14, .aload_n 0, []), (15, .iload_n 1, [])] (by decide +kernel) (y := (16, [some (.ref a0), some (.int p1)], [.int p1, .ref a0], h)) rfl ?_
      obtain ⟨c11_3, hc11_3, hF⟩ := ob_some hF
      refine en_putI (by decide +kernel : u_at kl_124 16 = some (.putfield 104, [11, 1, 0])) hW ha0 rfl (by decide) rfl (fun h hW => ?_)
      have hW : HW (mkw c0 c1 c2 c3 c4 c5 c6 c7 c8 c9 c10 c11_3 c12 c13) d h := by rw [← Option.some.inj hc11_3]; exact hW
      refine en_segs [(19, .iload_n 1, [])] (by decide +kernel) (y := (20, [some (.ref a0), some (.int p1)], [.int p1], h)) rfl ?_
      obtain rfl := Option.some.inj hF
      exact en_ret (by decide +kernel : u_at kl_124 20 = some (.ireturn, [0])) rfl (hQ _ hW)
    · replace hF := i_neg b2 hF
      refine en_segs [(12, .iconst (-1), [])] (by decide +kernel) (y := (13, [some (.ref a0), some (.int p1)], [.int (-1)], h)) rfl ?_
      obtain rfl := Option.some.inj hF
      exact en_ret (by decide +kernel : u_at kl_124 13 = some (.ireturn, [0])) rfl (hQ _ hW)
def F_158 (c1 : Cl) (c8 : Cl) (c10 : Cl) (c11 : Cl) (a0 : Nat) (p1 : Int32) : Option Int32 :=
  ((if p1 < 0 then
  some 0
  else
  if (cI c1 2 (cR c8 0 (cR c10 0 (cR c11 7 a0)))) ≤ p1 then
  some 0
  else
  some 1) : Option (Int32)) >>= fun (t1 : Int32) =>
  zb t1 >>= fun z3 => some z3
set_option maxRecDepth 100000 in
set_option maxHeartbeats 4000000 in
/-- HeadCounts.isHead -/
theorem e_158 {D : Nat} {c0 c1 c2 c3 c4 c5 c6 c7 c8 c9 c10 c11 c12 c13 : Cl} {d : Ad} {h : UH} {a0 : Nat} {p1 : Int32} {r : Int32} (hD : 1 ≤ D) (hW : HW (mkw c0 c1 c2 c3 c4 c5 c6 c7 c8 c9 c10 c11 c12 c13) d h) (ha0 : aK d a0 = (0, 11, 0)) (hF : F_158 c1 c8 c10 c11 a0 p1 = some r) : ∃ q, EX D 158 [.ref a0, .int p1] h q ∧ q.1 = some (.int r) ∧ h = q.2 := by
  obtain ⟨D, rfl⟩ : ∃ E, D = E + 1 := ⟨D - 1, by omega⟩
  unfold F_158 at hF
  refine ex_in (kl := kl_158) (nL := 2) rfl (by decide +kernel) (Nat.le_of_ble_eq_true rfl) ?_
  obtain ⟨QQ, hQQ⟩ : ∃ QQ : UR → Prop, QQ = (fun q : UR => q.1 = some (.int r) ∧ h = q.2) := ⟨_, rfl⟩
  rw [← hQQ]
  have hQ : QQ (some (.int r), h) := by rw [hQQ]; exact ⟨rfl, rfl⟩
  clear hQQ
  show Ends (EX D) (u_at kl_158) (0, [some (.ref a0), some (.int p1)], [], h) QQ
  refine en_segs [(0, .iload_n 1, [])] (by decide +kernel) (y := (1, [some (.ref a0), some (.int p1)], [.int p1], h)) rfl ?_
  obtain ⟨t1, hX, hK⟩ := ob_some hF
  have j2 : Ends (EX D) (u_at kl_158) (26, [some (.ref a0), some (.int p1)], [.int t1], h) QQ := by
    have hF := hK
    obtain ⟨z3, hz3, hF⟩ := ob_some hF
    obtain rfl := Option.some.inj hF
    exact en_retZ (by decide +kernel : u_at kl_158 26 = some (.ireturn, [1])) hz3 (hQ)
  have hF := hX
  refine en_if_lt (by decide +kernel : u_at kl_158 1 = some (.ifCond .lt 24, [25])) (fun b4 => ?_) (fun b4 => ?_)
  · replace hF := i_pos b4 hF
    refine en_segs [(25, .iconst 0, [])] (by decide +kernel) (y := (26, [some (.ref a0), some (.int p1)], [.int 0], h)) rfl ?_
    obtain rfl := Option.some.inj hF
    exact j2
  · replace hF := i_neg b4 hF
    refine en_segs [(4, .iload_n 1, []), (5, .aload_n 0, [])] (by decide +kernel) (y := (6, [some (.ref a0), some (.int p1)], [.ref a0, .int p1], h)) rfl ?_
    have k5 : aK d (cR c11 7 a0) = (0, 10, 0) := wf_obj hW ha0 (by decide) rfl
    refine en_get (by decide +kernel : u_at kl_158 6 = some (.getfield 52, [11, 7])) hW ha0 (by decide) rfl ?_
    have k6 : aK d (cR c10 0 (cR c11 7 a0)) = (0, 8, 0) := wf_obj hW k5 (by decide) rfl
    refine en_get (by decide +kernel : u_at kl_158 9 = some (.getfield 62, [10, 0])) hW k5 (by decide) rfl ?_
    have k7 : aK d (cR c8 0 (cR c10 0 (cR c11 7 a0))) = (0, 1, 0) := wf_obj hW k6 (by decide) rfl
    refine en_get (by decide +kernel : u_at kl_158 12 = some (.getfield 66, [8, 0])) hW k6 (by decide) rfl ?_
    refine en_get (by decide +kernel : u_at kl_158 15 = some (.getfield 126, [1, 2])) hW k7 (by decide) rfl ?_
    refine en_ic_ge (by decide +kernel : u_at kl_158 18 = some (.if_icmp .ge 7, [25])) (fun b8 => ?_) (fun b8 => ?_)
    · replace hF := i_pos b8 hF
      refine en_segs [(25, .iconst 0, [])] (by decide +kernel) (y := (26, [some (.ref a0), some (.int p1)], [.int 0], h)) rfl ?_
      obtain rfl := Option.some.inj hF
      exact j2
    · replace hF := i_neg b8 hF
      refine en_segs [(21, .iconst 1, []), (22, .goto 4, [26])] (by decide +kernel) (y := (26, [some (.ref a0), some (.int p1)], [.int 1], h)) rfl ?_
      obtain rfl := Option.some.inj hF
      exact j2
def F_127 (c1 : Cl) (c8 : Cl) (c10 : Cl) (c11 : Cl) (a0 : Nat) (p1 : Int32) (p2 : Int32) : Option Int32 :=
  F_158 c1 c8 c10 c11 a0 p1 >>= fun r1 =>
  if r1 = 0 then
  some (-1)
  else
  if p2 = 0 then
  ald (cA c8 4 (cR c10 0 (cR c11 7 a0))) 6 p1 >>= fun v6 =>
  some v6
  else
  if p2 = 1 then
  ald (cA c1 8 (cR c8 0 (cR c10 0 (cR c11 7 a0)))) 6 p1 >>= fun v9 =>
  some v9
  else
  if p2 = 2 then
  ald (cA c1 7 (cR c8 0 (cR c10 0 (cR c11 7 a0)))) 6 p1 >>= fun v12 =>
  some v12
  else
  if p2 = 3 then
  ald (cA c8 5 (cR c10 0 (cR c11 7 a0))) 6 p1 >>= fun v14 =>
  some v14
  else
  if p2 = 4 then
  ald (cA c8 6 (cR c10 0 (cR c11 7 a0))) 6 p1 >>= fun v16 =>
  some v16
  else
  if p2 = 5 then
  F_83 c8 (cR c10 0 (cR c11 7 a0)) p1 >>= fun r18 =>
  ((if r18 = 0 then
  F_84 c8 (cR c10 0 (cR c11 7 a0)) p1 >>= fun r22 =>
  if r22 = 0 then
  some 2
  else
  some 1
  else
  some 0) : Option (Int32)) >>= fun (t19 : Int32) =>
  some t19
  else
  some (-1)
set_option maxRecDepth 100000 in
set_option maxHeartbeats 4000000 in
/-- HeadCounts.head -/
theorem e_127 {D : Nat} {c0 c1 c2 c3 c4 c5 c6 c7 c8 c9 c10 c11 c12 c13 : Cl} {d : Ad} {h : UH} {a0 : Nat} {p1 : Int32} {p2 : Int32} {r : Int32} (hD : 2 ≤ D) (hW : HW (mkw c0 c1 c2 c3 c4 c5 c6 c7 c8 c9 c10 c11 c12 c13) d h) (ha0 : aK d a0 = (0, 11, 0)) (hF : F_127 c1 c8 c10 c11 a0 p1 p2 = some r) : ∃ q, EX D 127 [.ref a0, .int p1, .int p2] h q ∧ q.1 = some (.int r) ∧ h = q.2 := by
  obtain ⟨D, rfl⟩ : ∃ E, D = E + 1 := ⟨D - 1, by omega⟩
  unfold F_127 at hF
  refine ex_in (kl := kl_127) (nL := 4) rfl (by decide +kernel) (Nat.le_of_ble_eq_true rfl) ?_
  obtain ⟨QQ, hQQ⟩ : ∃ QQ : UR → Prop, QQ = (fun q : UR => q.1 = some (.int r) ∧ h = q.2) := ⟨_, rfl⟩
  rw [← hQQ]
  have hQ : QQ (some (.int r), h) := by rw [hQQ]; exact ⟨rfl, rfl⟩
  clear hQQ
  show Ends (EX D) (u_at kl_127) (0, [some (.ref a0), some (.int p1), some (.int p2), none], [], h) QQ
  refine en_segs [(0, .aload_n 0, []), (1, .iload_n 1, [])] (by decide +kernel) (y := (2, [some (.ref a0), some (.int p1), some (.int p2), none], [.int p1, .ref a0], h)) rfl ?_
  obtain ⟨r1, hr1, hF⟩ := ob_some hF
  refine en_vi (r := []) (by decide +kernel : u_at kl_127 2 = some (.invokevirtual 135, [158, 1, 11])) hW ha0 rfl rfl (Nat.le_of_ble_eq_true rfl) (e_158 (D := D) (by omega) hW ha0 hr1) (fun h' q => ?_)
  subst q
  refine en_if_ne (by decide +kernel : u_at kl_127 5 = some (.ifCond .ne 5, [10])) (fun b2 => ?_) (fun b2 => ?_)
  · replace hF := i_pos b2 hF
    refine en_segs [(8, .iconst (-1), [])] (by decide +kernel) (y := (9, [some (.ref a0), some (.int p1), some (.int p2), none], [.int (-1)], h)) rfl ?_
    obtain rfl := Option.some.inj hF
    exact en_ret (by decide +kernel : u_at kl_127 9 = some (.ireturn, [0])) rfl (hQ)
  · replace hF := i_neg b2 hF
    refine en_segs [(10, .aload_n 0, [])] (by decide +kernel) (y := (11, [some (.ref a0), some (.int p1), some (.int p2), none], [.ref a0], h)) rfl ?_
    have k3 : aK d (cR c11 7 a0) = (0, 10, 0) := wf_obj hW ha0 (by decide) rfl
    refine en_get (by decide +kernel : u_at kl_127 11 = some (.getfield 52, [11, 7])) hW ha0 (by decide) rfl ?_
    have k4 : aK d (cR c10 0 (cR c11 7 a0)) = (0, 8, 0) := wf_obj hW k3 (by decide) rfl
    refine en_get (by decide +kernel : u_at kl_127 14 = some (.getfield 62, [10, 0])) hW k3 (by decide) rfl ?_
    refine en_segs [(17, .astore_n 3, []), (18, .iload_n 2, [])] (by decide +kernel) (y := (19, [some (.ref a0), some (.int p1), some (.int p2), some (.ref (cR c10 0 (cR c11 7 a0)))], [.int p2], h)) rfl ?_
    by_cases b5 : p2 = 0
    · replace hF := i_pos b5 hF
      refine en_tsC (by decide +kernel : u_at kl_127 19 = some (.tableswitch 104 0 5 #[37, 44, 54, 64, 71, 78], [123, 56, 63, 73, 83, 90, 97])) (by rw [b5]; decide) (u := 56) (by rw [b5]; rfl) ?_
      refine en_segs [(56, .aload_n 3, [])] (by decide +kernel) (y := (57, [some (.ref a0), some (.int p1), some (.int p2), some (.ref (cR c10 0 (cR c11 7 a0)))], [.ref (cR c10 0 (cR c11 7 a0))], h)) rfl ?_
      refine en_get (by decide +kernel : u_at kl_127 57 = some (.getfield 139, [8, 4])) hW k4 (by decide) rfl ?_
      refine en_segs [(60, .iload_n 1, [])] (by decide +kernel) (y := (61, [some (.ref a0), some (.int p1), some (.int p2), some (.ref (cR c10 0 (cR c11 7 a0)))], [.int p1, .ref (aP d 8 4 (cR c10 0 (cR c11 7 a0)))], h)) rfl ?_
      obtain ⟨v6, hv6, hF⟩ := ob_some hF
      refine en_iald (by decide +kernel : u_at kl_127 61 = some (.iaload, [])) hW k4 rfl (by decide) hv6 ?_
      obtain rfl := Option.some.inj hF
      exact en_ret (by decide +kernel : u_at kl_127 62 = some (.ireturn, [0])) rfl (hQ)
    · replace hF := i_neg b5 hF
      by_cases b7 : p2 = 1
      · replace hF := i_pos b7 hF
        refine en_tsC (by decide +kernel : u_at kl_127 19 = some (.tableswitch 104 0 5 #[37, 44, 54, 64, 71, 78], [123, 56, 63, 73, 83, 90, 97])) (by rw [b7]; decide) (u := 63) (by rw [b7]; rfl) ?_
        refine en_segs [(63, .aload_n 3, [])] (by decide +kernel) (y := (64, [some (.ref a0), some (.int p1), some (.int p2), some (.ref (cR c10 0 (cR c11 7 a0)))], [.ref (cR c10 0 (cR c11 7 a0))], h)) rfl ?_
        have k8 : aK d (cR c8 0 (cR c10 0 (cR c11 7 a0))) = (0, 1, 0) := wf_obj hW k4 (by decide) rfl
        refine en_get (by decide +kernel : u_at kl_127 64 = some (.getfield 66, [8, 0])) hW k4 (by decide) rfl ?_
        refine en_get (by decide +kernel : u_at kl_127 67 = some (.getfield 143, [1, 8])) hW k8 (by decide) rfl ?_
        refine en_segs [(70, .iload_n 1, [])] (by decide +kernel) (y := (71, [some (.ref a0), some (.int p1), some (.int p2), some (.ref (cR c10 0 (cR c11 7 a0)))], [.int p1, .ref (aP d 1 8 (cR c8 0 (cR c10 0 (cR c11 7 a0))))], h)) rfl ?_
        obtain ⟨v9, hv9, hF⟩ := ob_some hF
        refine en_iald (by decide +kernel : u_at kl_127 71 = some (.iaload, [])) hW k8 rfl (by decide) hv9 ?_
        obtain rfl := Option.some.inj hF
        exact en_ret (by decide +kernel : u_at kl_127 72 = some (.ireturn, [0])) rfl (hQ)
      · replace hF := i_neg b7 hF
        by_cases b10 : p2 = 2
        · replace hF := i_pos b10 hF
          refine en_tsC (by decide +kernel : u_at kl_127 19 = some (.tableswitch 104 0 5 #[37, 44, 54, 64, 71, 78], [123, 56, 63, 73, 83, 90, 97])) (by rw [b10]; decide) (u := 73) (by rw [b10]; rfl) ?_
          refine en_segs [(73, .aload_n 3, [])] (by decide +kernel) (y := (74, [some (.ref a0), some (.int p1), some (.int p2), some (.ref (cR c10 0 (cR c11 7 a0)))], [.ref (cR c10 0 (cR c11 7 a0))], h)) rfl ?_
          have k11 : aK d (cR c8 0 (cR c10 0 (cR c11 7 a0))) = (0, 1, 0) := wf_obj hW k4 (by decide) rfl
          refine en_get (by decide +kernel : u_at kl_127 74 = some (.getfield 66, [8, 0])) hW k4 (by decide) rfl ?_
          refine en_get (by decide +kernel : u_at kl_127 77 = some (.getfield 146, [1, 7])) hW k11 (by decide) rfl ?_
          refine en_segs [(80, .iload_n 1, [])] (by decide +kernel) (y := (81, [some (.ref a0), some (.int p1), some (.int p2), some (.ref (cR c10 0 (cR c11 7 a0)))], [.int p1, .ref (aP d 1 7 (cR c8 0 (cR c10 0 (cR c11 7 a0))))], h)) rfl ?_
          obtain ⟨v12, hv12, hF⟩ := ob_some hF
          refine en_iald (by decide +kernel : u_at kl_127 81 = some (.iaload, [])) hW k11 rfl (by decide) hv12 ?_
          obtain rfl := Option.some.inj hF
          exact en_ret (by decide +kernel : u_at kl_127 82 = some (.ireturn, [0])) rfl (hQ)
        · replace hF := i_neg b10 hF
          by_cases b13 : p2 = 3
          · replace hF := i_pos b13 hF
            refine en_tsC (by decide +kernel : u_at kl_127 19 = some (.tableswitch 104 0 5 #[37, 44, 54, 64, 71, 78], [123, 56, 63, 73, 83, 90, 97])) (by rw [b13]; decide) (u := 83) (by rw [b13]; rfl) ?_
            refine en_segs [(83, .aload_n 3, [])] (by decide +kernel) (y := (84, [some (.ref a0), some (.int p1), some (.int p2), some (.ref (cR c10 0 (cR c11 7 a0)))], [.ref (cR c10 0 (cR c11 7 a0))], h)) rfl ?_
            refine en_get (by decide +kernel : u_at kl_127 84 = some (.getfield 149, [8, 5])) hW k4 (by decide) rfl ?_
            refine en_segs [(87, .iload_n 1, [])] (by decide +kernel) (y := (88, [some (.ref a0), some (.int p1), some (.int p2), some (.ref (cR c10 0 (cR c11 7 a0)))], [.int p1, .ref (aP d 8 5 (cR c10 0 (cR c11 7 a0)))], h)) rfl ?_
            obtain ⟨v14, hv14, hF⟩ := ob_some hF
            refine en_iald (by decide +kernel : u_at kl_127 88 = some (.iaload, [])) hW k4 rfl (by decide) hv14 ?_
            obtain rfl := Option.some.inj hF
            exact en_ret (by decide +kernel : u_at kl_127 89 = some (.ireturn, [0])) rfl (hQ)
          · replace hF := i_neg b13 hF
            by_cases b15 : p2 = 4
            · replace hF := i_pos b15 hF
              refine en_tsC (by decide +kernel : u_at kl_127 19 = some (.tableswitch 104 0 5 #[37, 44, 54, 64, 71, 78], [123, 56, 63, 73, 83, 90, 97])) (by rw [b15]; decide) (u := 90) (by rw [b15]; rfl) ?_
              refine en_segs [(90, .aload_n 3, [])] (by decide +kernel) (y := (91, [some (.ref a0), some (.int p1), some (.int p2), some (.ref (cR c10 0 (cR c11 7 a0)))], [.ref (cR c10 0 (cR c11 7 a0))], h)) rfl ?_
              refine en_get (by decide +kernel : u_at kl_127 91 = some (.getfield 152, [8, 6])) hW k4 (by decide) rfl ?_
              refine en_segs [(94, .iload_n 1, [])] (by decide +kernel) (y := (95, [some (.ref a0), some (.int p1), some (.int p2), some (.ref (cR c10 0 (cR c11 7 a0)))], [.int p1, .ref (aP d 8 6 (cR c10 0 (cR c11 7 a0)))], h)) rfl ?_
              obtain ⟨v16, hv16, hF⟩ := ob_some hF
              refine en_iald (by decide +kernel : u_at kl_127 95 = some (.iaload, [])) hW k4 rfl (by decide) hv16 ?_
              obtain rfl := Option.some.inj hF
              exact en_ret (by decide +kernel : u_at kl_127 96 = some (.ireturn, [0])) rfl (hQ)
            · replace hF := i_neg b15 hF
              by_cases b17 : p2 = 5
              · replace hF := i_pos b17 hF
                refine en_tsC (by decide +kernel : u_at kl_127 19 = some (.tableswitch 104 0 5 #[37, 44, 54, 64, 71, 78], [123, 56, 63, 73, 83, 90, 97])) (by rw [b17]; decide) (u := 97) (by rw [b17]; rfl) ?_
                refine en_segs [(97, .aload_n 3, []), (98, .iload_n 1, [])] (by decide +kernel) (y := (99, [some (.ref a0), some (.int p1), some (.int p2), some (.ref (cR c10 0 (cR c11 7 a0)))], [.int p1, .ref (cR c10 0 (cR c11 7 a0))], h)) rfl ?_
                obtain ⟨r18, hr18, hF⟩ := ob_some hF
                refine en_vi (r := []) (by decide +kernel : u_at kl_127 99 = some (.invokevirtual 155, [83, 1, 8])) hW k4 rfl rfl (Nat.le_of_ble_eq_true rfl) (e_83 (D := D) (by omega) hW k4 hr18) (fun h' q => ?_)
                subst q
                obtain ⟨t19, hX, hK⟩ := ob_some hF
                have j20 : Ends (EX D) (u_at kl_127) (122, [some (.ref a0), some (.int p1), some (.int p2), some (.ref (cR c10 0 (cR c11 7 a0)))], [.int t19], h) QQ := by
                  have hF := hK
                  obtain rfl := Option.some.inj hF
                  exact en_ret (by decide +kernel : u_at kl_127 122 = some (.ireturn, [0])) rfl (hQ)
                have hF := hX
                refine en_if_eq (by decide +kernel : u_at kl_127 102 = some (.ifCond .eq 7, [109])) (fun b21 => ?_) (fun b21 => ?_)
                · replace hF := i_pos b21 hF
                  refine en_segs [(109, .aload_n 3, []), (110, .iload_n 1, [])] (by decide +kernel) (y := (111, [some (.ref a0), some (.int p1), some (.int p2), some (.ref (cR c10 0 (cR c11 7 a0)))], [.int p1, .ref (cR c10 0 (cR c11 7 a0))], h)) rfl ?_
                  obtain ⟨r22, hr22, hF⟩ := ob_some hF
                  refine en_vi (r := []) (by decide +kernel : u_at kl_127 111 = some (.invokevirtual 158, [84, 1, 8])) hW k4 rfl rfl (Nat.le_of_ble_eq_true rfl) (e_84 (D := D) (by omega) hW k4 hr22) (fun h' q => ?_)
                  subst q
                  refine en_if_eq (by decide +kernel : u_at kl_127 114 = some (.ifCond .eq 7, [121])) (fun b23 => ?_) (fun b23 => ?_)
                  · replace hF := i_pos b23 hF
                    refine en_segs [(121, .iconst 2, [])] (by decide +kernel) (y := (122, [some (.ref a0), some (.int p1), some (.int p2), some (.ref (cR c10 0 (cR c11 7 a0)))], [.int 2], h)) rfl ?_
                    obtain rfl := Option.some.inj hF
                    exact j20
                  · replace hF := i_neg b23 hF
                    refine en_segs [(117, .iconst 1, []), (118, .goto 4, [122])] (by decide +kernel) (y := (122, [some (.ref a0), some (.int p1), some (.int p2), some (.ref (cR c10 0 (cR c11 7 a0)))], [.int 1], h)) rfl ?_
                    obtain rfl := Option.some.inj hF
                    exact j20
                · replace hF := i_neg b21 hF
                  refine en_segs [(105, .iconst 0, []), (106, .goto 16, [122])] (by decide +kernel) (y := (122, [some (.ref a0), some (.int p1), some (.int p2), some (.ref (cR c10 0 (cR c11 7 a0)))], [.int 0], h)) rfl ?_
                  obtain rfl := Option.some.inj hF
                  exact j20
              · replace hF := i_neg b17 hF
                have wb5 : (p2 : Int32).toInt ≠ 0 := ti_ne b5
                have wb7 : (p2 : Int32).toInt ≠ 1 := ti_ne b7
                have wb10 : (p2 : Int32).toInt ≠ 2 := ti_ne b10
                have wb13 : (p2 : Int32).toInt ≠ 3 := ti_ne b13
                have wb15 : (p2 : Int32).toInt ≠ 4 := ti_ne b15
                have wb17 : (p2 : Int32).toInt ≠ 5 := ti_ne b17
                refine en_tsO (by decide +kernel : u_at kl_127 19 = some (.tableswitch 104 0 5 #[37, 44, 54, 64, 71, 78], [123, 56, 63, 73, 83, 90, 97])) (by omega) ?_
                refine en_segs [(123, .iconst (-1), [])] (by decide +kernel) (y := (124, [some (.ref a0), some (.int p1), some (.int p2), some (.ref (cR c10 0 (cR c11 7 a0)))], [.int (-1)], h)) rfl ?_
                obtain rfl := Option.some.inj hF
                exact en_ret (by decide +kernel : u_at kl_127 124 = some (.ireturn, [0])) rfl (hQ)
def F_160 (c1 : Cl) (c8 : Cl) (c10 : Cl) (c11 : Cl) (a0 : Nat) (p1 : Int32) : Option Int32 :=
  ((if p1 < 0 then
  some 0
  else
  if (cI c1 0 (cR c8 0 (cR c10 0 (cR c11 7 a0)))) ≤ p1 then
  some 0
  else
  some 1) : Option (Int32)) >>= fun (t1 : Int32) =>
  zb t1 >>= fun z3 => some z3
set_option maxRecDepth 100000 in
set_option maxHeartbeats 4000000 in
/-- HeadCounts.isRoom -/
theorem e_160 {D : Nat} {c0 c1 c2 c3 c4 c5 c6 c7 c8 c9 c10 c11 c12 c13 : Cl} {d : Ad} {h : UH} {a0 : Nat} {p1 : Int32} {r : Int32} (hD : 1 ≤ D) (hW : HW (mkw c0 c1 c2 c3 c4 c5 c6 c7 c8 c9 c10 c11 c12 c13) d h) (ha0 : aK d a0 = (0, 11, 0)) (hF : F_160 c1 c8 c10 c11 a0 p1 = some r) : ∃ q, EX D 160 [.ref a0, .int p1] h q ∧ q.1 = some (.int r) ∧ h = q.2 := by
  obtain ⟨D, rfl⟩ : ∃ E, D = E + 1 := ⟨D - 1, by omega⟩
  unfold F_160 at hF
  refine ex_in (kl := kl_160) (nL := 2) rfl (by decide +kernel) (Nat.le_of_ble_eq_true rfl) ?_
  obtain ⟨QQ, hQQ⟩ : ∃ QQ : UR → Prop, QQ = (fun q : UR => q.1 = some (.int r) ∧ h = q.2) := ⟨_, rfl⟩
  rw [← hQQ]
  have hQ : QQ (some (.int r), h) := by rw [hQQ]; exact ⟨rfl, rfl⟩
  clear hQQ
  show Ends (EX D) (u_at kl_160) (0, [some (.ref a0), some (.int p1)], [], h) QQ
  refine en_segs [(0, .iload_n 1, [])] (by decide +kernel) (y := (1, [some (.ref a0), some (.int p1)], [.int p1], h)) rfl ?_
  obtain ⟨t1, hX, hK⟩ := ob_some hF
  have j2 : Ends (EX D) (u_at kl_160) (26, [some (.ref a0), some (.int p1)], [.int t1], h) QQ := by
    have hF := hK
    obtain ⟨z3, hz3, hF⟩ := ob_some hF
    obtain rfl := Option.some.inj hF
    exact en_retZ (by decide +kernel : u_at kl_160 26 = some (.ireturn, [1])) hz3 (hQ)
  have hF := hX
  refine en_if_lt (by decide +kernel : u_at kl_160 1 = some (.ifCond .lt 24, [25])) (fun b4 => ?_) (fun b4 => ?_)
  · replace hF := i_pos b4 hF
    refine en_segs [(25, .iconst 0, [])] (by decide +kernel) (y := (26, [some (.ref a0), some (.int p1)], [.int 0], h)) rfl ?_
    obtain rfl := Option.some.inj hF
    exact j2
  · replace hF := i_neg b4 hF
    refine en_segs [(4, .iload_n 1, []), (5, .aload_n 0, [])] (by decide +kernel) (y := (6, [some (.ref a0), some (.int p1)], [.ref a0, .int p1], h)) rfl ?_
    have k5 : aK d (cR c11 7 a0) = (0, 10, 0) := wf_obj hW ha0 (by decide) rfl
    refine en_get (by decide +kernel : u_at kl_160 6 = some (.getfield 52, [11, 7])) hW ha0 (by decide) rfl ?_
    have k6 : aK d (cR c10 0 (cR c11 7 a0)) = (0, 8, 0) := wf_obj hW k5 (by decide) rfl
    refine en_get (by decide +kernel : u_at kl_160 9 = some (.getfield 62, [10, 0])) hW k5 (by decide) rfl ?_
    have k7 : aK d (cR c8 0 (cR c10 0 (cR c11 7 a0))) = (0, 1, 0) := wf_obj hW k6 (by decide) rfl
    refine en_get (by decide +kernel : u_at kl_160 12 = some (.getfield 66, [8, 0])) hW k6 (by decide) rfl ?_
    refine en_get (by decide +kernel : u_at kl_160 15 = some (.getfield 288, [1, 0])) hW k7 (by decide) rfl ?_
    refine en_ic_ge (by decide +kernel : u_at kl_160 18 = some (.if_icmp .ge 7, [25])) (fun b8 => ?_) (fun b8 => ?_)
    · replace hF := i_pos b8 hF
      refine en_segs [(25, .iconst 0, [])] (by decide +kernel) (y := (26, [some (.ref a0), some (.int p1)], [.int 0], h)) rfl ?_
      obtain rfl := Option.some.inj hF
      exact j2
    · replace hF := i_neg b8 hF
      refine en_segs [(21, .iconst 1, []), (22, .goto 4, [26])] (by decide +kernel) (y := (26, [some (.ref a0), some (.int p1)], [.int 1], h)) rfl ?_
      obtain rfl := Option.some.inj hF
      exact j2
def F_128 (c1 : Cl) (c8 : Cl) (c10 : Cl) (c11 : Cl) (a0 : Nat) (p1 : Int32) (p2 : Int32) : Option Int32 :=
  F_160 c1 c8 c10 c11 a0 p1 >>= fun r1 =>
  if r1 = 0 then
  some (-1)
  else
  if p2 = 0 then
  ald (cA c8 11 (cR c10 0 (cR c11 7 a0))) 6 p1 >>= fun v6 =>
  some v6
  else
  if p2 = 1 then
  F_96 c1 c8 (cR c10 0 (cR c11 7 a0)) p1 >>= fun r8 =>
  some r8
  else
  if p2 = 2 then
  F_98 c1 c8 (cR c10 0 (cR c11 7 a0)) p1 >>= fun r10 =>
  some r10
  else
  if p2 = 3 then
  ald (cA c1 10 (cR c8 0 (cR c10 0 (cR c11 7 a0)))) 6 p1 >>= fun v13 =>
  some v13
  else
  if p2 = 4 then
  ald (cA c1 9 (cR c8 0 (cR c10 0 (cR c11 7 a0)))) 6 p1 >>= fun v16 =>
  some v16
  else
  if p2 = 5 then
  ald (cA c8 12 (cR c10 0 (cR c11 7 a0))) 6 p1 >>= fun v18 =>
  some v18
  else
  some (-1)
set_option maxRecDepth 100000 in
set_option maxHeartbeats 4000000 in
/-- HeadCounts.room -/
theorem e_128 {D : Nat} {c0 c1 c2 c3 c4 c5 c6 c7 c8 c9 c10 c11 c12 c13 : Cl} {d : Ad} {h : UH} {a0 : Nat} {p1 : Int32} {p2 : Int32} {r : Int32} (hD : 3 ≤ D) (hW : HW (mkw c0 c1 c2 c3 c4 c5 c6 c7 c8 c9 c10 c11 c12 c13) d h) (ha0 : aK d a0 = (0, 11, 0)) (hF : F_128 c1 c8 c10 c11 a0 p1 p2 = some r) : ∃ q, EX D 128 [.ref a0, .int p1, .int p2] h q ∧ q.1 = some (.int r) ∧ h = q.2 := by
  obtain ⟨D, rfl⟩ : ∃ E, D = E + 1 := ⟨D - 1, by omega⟩
  unfold F_128 at hF
  refine ex_in (kl := kl_128) (nL := 4) rfl (by decide +kernel) (Nat.le_of_ble_eq_true rfl) ?_
  obtain ⟨QQ, hQQ⟩ : ∃ QQ : UR → Prop, QQ = (fun q : UR => q.1 = some (.int r) ∧ h = q.2) := ⟨_, rfl⟩
  rw [← hQQ]
  have hQ : QQ (some (.int r), h) := by rw [hQQ]; exact ⟨rfl, rfl⟩
  clear hQQ
  show Ends (EX D) (u_at kl_128) (0, [some (.ref a0), some (.int p1), some (.int p2), none], [], h) QQ
  refine en_segs [(0, .aload_n 0, []), (1, .iload_n 1, [])] (by decide +kernel) (y := (2, [some (.ref a0), some (.int p1), some (.int p2), none], [.int p1, .ref a0], h)) rfl ?_
  obtain ⟨r1, hr1, hF⟩ := ob_some hF
  refine en_vi (r := []) (by decide +kernel : u_at kl_128 2 = some (.invokevirtual 161, [160, 1, 11])) hW ha0 rfl rfl (Nat.le_of_ble_eq_true rfl) (e_160 (D := D) (by omega) hW ha0 hr1) (fun h' q => ?_)
  subst q
  refine en_if_ne (by decide +kernel : u_at kl_128 5 = some (.ifCond .ne 5, [10])) (fun b2 => ?_) (fun b2 => ?_)
  · replace hF := i_pos b2 hF
    refine en_segs [(8, .iconst (-1), [])] (by decide +kernel) (y := (9, [some (.ref a0), some (.int p1), some (.int p2), none], [.int (-1)], h)) rfl ?_
    obtain rfl := Option.some.inj hF
    exact en_ret (by decide +kernel : u_at kl_128 9 = some (.ireturn, [0])) rfl (hQ)
  · replace hF := i_neg b2 hF
    refine en_segs [(10, .aload_n 0, [])] (by decide +kernel) (y := (11, [some (.ref a0), some (.int p1), some (.int p2), none], [.ref a0], h)) rfl ?_
    have k3 : aK d (cR c11 7 a0) = (0, 10, 0) := wf_obj hW ha0 (by decide) rfl
    refine en_get (by decide +kernel : u_at kl_128 11 = some (.getfield 52, [11, 7])) hW ha0 (by decide) rfl ?_
    have k4 : aK d (cR c10 0 (cR c11 7 a0)) = (0, 8, 0) := wf_obj hW k3 (by decide) rfl
    refine en_get (by decide +kernel : u_at kl_128 14 = some (.getfield 62, [10, 0])) hW k3 (by decide) rfl ?_
    refine en_segs [(17, .astore_n 3, []), (18, .iload_n 2, [])] (by decide +kernel) (y := (19, [some (.ref a0), some (.int p1), some (.int p2), some (.ref (cR c10 0 (cR c11 7 a0)))], [.int p2], h)) rfl ?_
    by_cases b5 : p2 = 0
    · replace hF := i_pos b5 hF
      refine en_tsC (by decide +kernel : u_at kl_128 19 = some (.tableswitch 83 0 5 #[37, 44, 50, 56, 66, 76], [102, 56, 63, 69, 75, 85, 95])) (by rw [b5]; decide) (u := 56) (by rw [b5]; rfl) ?_
      refine en_segs [(56, .aload_n 3, [])] (by decide +kernel) (y := (57, [some (.ref a0), some (.int p1), some (.int p2), some (.ref (cR c10 0 (cR c11 7 a0)))], [.ref (cR c10 0 (cR c11 7 a0))], h)) rfl ?_
      refine en_get (by decide +kernel : u_at kl_128 57 = some (.getfield 164, [8, 11])) hW k4 (by decide) rfl ?_
      refine en_segs [(60, .iload_n 1, [])] (by decide +kernel) (y := (61, [some (.ref a0), some (.int p1), some (.int p2), some (.ref (cR c10 0 (cR c11 7 a0)))], [.int p1, .ref (aP d 8 11 (cR c10 0 (cR c11 7 a0)))], h)) rfl ?_
      obtain ⟨v6, hv6, hF⟩ := ob_some hF
      refine en_iald (by decide +kernel : u_at kl_128 61 = some (.iaload, [])) hW k4 rfl (by decide) hv6 ?_
      obtain rfl := Option.some.inj hF
      exact en_ret (by decide +kernel : u_at kl_128 62 = some (.ireturn, [0])) rfl (hQ)
    · replace hF := i_neg b5 hF
      by_cases b7 : p2 = 1
      · replace hF := i_pos b7 hF
        refine en_tsC (by decide +kernel : u_at kl_128 19 = some (.tableswitch 83 0 5 #[37, 44, 50, 56, 66, 76], [102, 56, 63, 69, 75, 85, 95])) (by rw [b7]; decide) (u := 63) (by rw [b7]; rfl) ?_
        refine en_segs [(63, .aload_n 3, []), (64, .iload_n 1, [])] (by decide +kernel) (y := (65, [some (.ref a0), some (.int p1), some (.int p2), some (.ref (cR c10 0 (cR c11 7 a0)))], [.int p1, .ref (cR c10 0 (cR c11 7 a0))], h)) rfl ?_
        obtain ⟨r8, hr8, hF⟩ := ob_some hF
        refine en_vi (r := []) (by decide +kernel : u_at kl_128 65 = some (.invokevirtual 167, [96, 1, 8])) hW k4 rfl rfl (Nat.le_of_ble_eq_true rfl) (e_96 (D := D) (by omega) hW k4 hr8) (fun h' q => ?_)
        subst q
        obtain rfl := Option.some.inj hF
        exact en_ret (by decide +kernel : u_at kl_128 68 = some (.ireturn, [0])) rfl (hQ)
      · replace hF := i_neg b7 hF
        by_cases b9 : p2 = 2
        · replace hF := i_pos b9 hF
          refine en_tsC (by decide +kernel : u_at kl_128 19 = some (.tableswitch 83 0 5 #[37, 44, 50, 56, 66, 76], [102, 56, 63, 69, 75, 85, 95])) (by rw [b9]; decide) (u := 69) (by rw [b9]; rfl) ?_
          refine en_segs [(69, .aload_n 3, []), (70, .iload_n 1, [])] (by decide +kernel) (y := (71, [some (.ref a0), some (.int p1), some (.int p2), some (.ref (cR c10 0 (cR c11 7 a0)))], [.int p1, .ref (cR c10 0 (cR c11 7 a0))], h)) rfl ?_
          obtain ⟨r10, hr10, hF⟩ := ob_some hF
          refine en_vi (r := []) (by decide +kernel : u_at kl_128 71 = some (.invokevirtual 171, [98, 1, 8])) hW k4 rfl rfl (Nat.le_of_ble_eq_true rfl) (e_98 (D := D) (by omega) hW k4 hr10) (fun h' q => ?_)
          subst q
          obtain rfl := Option.some.inj hF
          exact en_ret (by decide +kernel : u_at kl_128 74 = some (.ireturn, [0])) rfl (hQ)
        · replace hF := i_neg b9 hF
          by_cases b11 : p2 = 3
          · replace hF := i_pos b11 hF
            refine en_tsC (by decide +kernel : u_at kl_128 19 = some (.tableswitch 83 0 5 #[37, 44, 50, 56, 66, 76], [102, 56, 63, 69, 75, 85, 95])) (by rw [b11]; decide) (u := 75) (by rw [b11]; rfl) ?_
            refine en_segs [(75, .aload_n 3, [])] (by decide +kernel) (y := (76, [some (.ref a0), some (.int p1), some (.int p2), some (.ref (cR c10 0 (cR c11 7 a0)))], [.ref (cR c10 0 (cR c11 7 a0))], h)) rfl ?_
            have k12 : aK d (cR c8 0 (cR c10 0 (cR c11 7 a0))) = (0, 1, 0) := wf_obj hW k4 (by decide) rfl
            refine en_get (by decide +kernel : u_at kl_128 76 = some (.getfield 66, [8, 0])) hW k4 (by decide) rfl ?_
            refine en_get (by decide +kernel : u_at kl_128 79 = some (.getfield 174, [1, 10])) hW k12 (by decide) rfl ?_
            refine en_segs [(82, .iload_n 1, [])] (by decide +kernel) (y := (83, [some (.ref a0), some (.int p1), some (.int p2), some (.ref (cR c10 0 (cR c11 7 a0)))], [.int p1, .ref (aP d 1 10 (cR c8 0 (cR c10 0 (cR c11 7 a0))))], h)) rfl ?_
            obtain ⟨v13, hv13, hF⟩ := ob_some hF
            refine en_iald (by decide +kernel : u_at kl_128 83 = some (.iaload, [])) hW k12 rfl (by decide) hv13 ?_
            obtain rfl := Option.some.inj hF
            exact en_ret (by decide +kernel : u_at kl_128 84 = some (.ireturn, [0])) rfl (hQ)
          · replace hF := i_neg b11 hF
            by_cases b14 : p2 = 4
            · replace hF := i_pos b14 hF
              refine en_tsC (by decide +kernel : u_at kl_128 19 = some (.tableswitch 83 0 5 #[37, 44, 50, 56, 66, 76], [102, 56, 63, 69, 75, 85, 95])) (by rw [b14]; decide) (u := 85) (by rw [b14]; rfl) ?_
              refine en_segs [(85, .aload_n 3, [])] (by decide +kernel) (y := (86, [some (.ref a0), some (.int p1), some (.int p2), some (.ref (cR c10 0 (cR c11 7 a0)))], [.ref (cR c10 0 (cR c11 7 a0))], h)) rfl ?_
              have k15 : aK d (cR c8 0 (cR c10 0 (cR c11 7 a0))) = (0, 1, 0) := wf_obj hW k4 (by decide) rfl
              refine en_get (by decide +kernel : u_at kl_128 86 = some (.getfield 66, [8, 0])) hW k4 (by decide) rfl ?_
              refine en_get (by decide +kernel : u_at kl_128 89 = some (.getfield 177, [1, 9])) hW k15 (by decide) rfl ?_
              refine en_segs [(92, .iload_n 1, [])] (by decide +kernel) (y := (93, [some (.ref a0), some (.int p1), some (.int p2), some (.ref (cR c10 0 (cR c11 7 a0)))], [.int p1, .ref (aP d 1 9 (cR c8 0 (cR c10 0 (cR c11 7 a0))))], h)) rfl ?_
              obtain ⟨v16, hv16, hF⟩ := ob_some hF
              refine en_iald (by decide +kernel : u_at kl_128 93 = some (.iaload, [])) hW k15 rfl (by decide) hv16 ?_
              obtain rfl := Option.some.inj hF
              exact en_ret (by decide +kernel : u_at kl_128 94 = some (.ireturn, [0])) rfl (hQ)
            · replace hF := i_neg b14 hF
              by_cases b17 : p2 = 5
              · replace hF := i_pos b17 hF
                refine en_tsC (by decide +kernel : u_at kl_128 19 = some (.tableswitch 83 0 5 #[37, 44, 50, 56, 66, 76], [102, 56, 63, 69, 75, 85, 95])) (by rw [b17]; decide) (u := 95) (by rw [b17]; rfl) ?_
                refine en_segs [(95, .aload_n 3, [])] (by decide +kernel) (y := (96, [some (.ref a0), some (.int p1), some (.int p2), some (.ref (cR c10 0 (cR c11 7 a0)))], [.ref (cR c10 0 (cR c11 7 a0))], h)) rfl ?_
                refine en_get (by decide +kernel : u_at kl_128 96 = some (.getfield 180, [8, 12])) hW k4 (by decide) rfl ?_
                refine en_segs [(99, .iload_n 1, [])] (by decide +kernel) (y := (100, [some (.ref a0), some (.int p1), some (.int p2), some (.ref (cR c10 0 (cR c11 7 a0)))], [.int p1, .ref (aP d 8 12 (cR c10 0 (cR c11 7 a0)))], h)) rfl ?_
                obtain ⟨v18, hv18, hF⟩ := ob_some hF
                refine en_iald (by decide +kernel : u_at kl_128 100 = some (.iaload, [])) hW k4 rfl (by decide) hv18 ?_
                obtain rfl := Option.some.inj hF
                exact en_ret (by decide +kernel : u_at kl_128 101 = some (.ireturn, [0])) rfl (hQ)
              · replace hF := i_neg b17 hF
                have wb5 : (p2 : Int32).toInt ≠ 0 := ti_ne b5
                have wb7 : (p2 : Int32).toInt ≠ 1 := ti_ne b7
                have wb9 : (p2 : Int32).toInt ≠ 2 := ti_ne b9
                have wb11 : (p2 : Int32).toInt ≠ 3 := ti_ne b11
                have wb14 : (p2 : Int32).toInt ≠ 4 := ti_ne b14
                have wb17 : (p2 : Int32).toInt ≠ 5 := ti_ne b17
                refine en_tsO (by decide +kernel : u_at kl_128 19 = some (.tableswitch 83 0 5 #[37, 44, 50, 56, 66, 76], [102, 56, 63, 69, 75, 85, 95])) (by omega) ?_
                refine en_segs [(102, .iconst (-1), [])] (by decide +kernel) (y := (103, [some (.ref a0), some (.int p1), some (.int p2), some (.ref (cR c10 0 (cR c11 7 a0)))], [.int (-1)], h)) rfl ?_
                obtain rfl := Option.some.inj hF
                exact en_ret (by decide +kernel : u_at kl_128 103 = some (.ireturn, [0])) rfl (hQ)
def F_161 (c1 : Cl) (c8 : Cl) (c10 : Cl) (c11 : Cl) (a0 : Nat) (p1 : Int32) : Option Int32 :=
  ((if p1 < 0 then
  some 0
  else
  if (cI c1 1 (cR c8 0 (cR c10 0 (cR c11 7 a0)))) ≤ p1 then
  some 0
  else
  some 1) : Option (Int32)) >>= fun (t1 : Int32) =>
  zb t1 >>= fun z3 => some z3
set_option maxRecDepth 100000 in
set_option maxHeartbeats 4000000 in
/-- HeadCounts.isDoor -/
theorem e_161 {D : Nat} {c0 c1 c2 c3 c4 c5 c6 c7 c8 c9 c10 c11 c12 c13 : Cl} {d : Ad} {h : UH} {a0 : Nat} {p1 : Int32} {r : Int32} (hD : 1 ≤ D) (hW : HW (mkw c0 c1 c2 c3 c4 c5 c6 c7 c8 c9 c10 c11 c12 c13) d h) (ha0 : aK d a0 = (0, 11, 0)) (hF : F_161 c1 c8 c10 c11 a0 p1 = some r) : ∃ q, EX D 161 [.ref a0, .int p1] h q ∧ q.1 = some (.int r) ∧ h = q.2 := by
  obtain ⟨D, rfl⟩ : ∃ E, D = E + 1 := ⟨D - 1, by omega⟩
  unfold F_161 at hF
  refine ex_in (kl := kl_161) (nL := 2) rfl (by decide +kernel) (Nat.le_of_ble_eq_true rfl) ?_
  obtain ⟨QQ, hQQ⟩ : ∃ QQ : UR → Prop, QQ = (fun q : UR => q.1 = some (.int r) ∧ h = q.2) := ⟨_, rfl⟩
  rw [← hQQ]
  have hQ : QQ (some (.int r), h) := by rw [hQQ]; exact ⟨rfl, rfl⟩
  clear hQQ
  show Ends (EX D) (u_at kl_161) (0, [some (.ref a0), some (.int p1)], [], h) QQ
  refine en_segs [(0, .iload_n 1, [])] (by decide +kernel) (y := (1, [some (.ref a0), some (.int p1)], [.int p1], h)) rfl ?_
  obtain ⟨t1, hX, hK⟩ := ob_some hF
  have j2 : Ends (EX D) (u_at kl_161) (26, [some (.ref a0), some (.int p1)], [.int t1], h) QQ := by
    have hF := hK
    obtain ⟨z3, hz3, hF⟩ := ob_some hF
    obtain rfl := Option.some.inj hF
    exact en_retZ (by decide +kernel : u_at kl_161 26 = some (.ireturn, [1])) hz3 (hQ)
  have hF := hX
  refine en_if_lt (by decide +kernel : u_at kl_161 1 = some (.ifCond .lt 24, [25])) (fun b4 => ?_) (fun b4 => ?_)
  · replace hF := i_pos b4 hF
    refine en_segs [(25, .iconst 0, [])] (by decide +kernel) (y := (26, [some (.ref a0), some (.int p1)], [.int 0], h)) rfl ?_
    obtain rfl := Option.some.inj hF
    exact j2
  · replace hF := i_neg b4 hF
    refine en_segs [(4, .iload_n 1, []), (5, .aload_n 0, [])] (by decide +kernel) (y := (6, [some (.ref a0), some (.int p1)], [.ref a0, .int p1], h)) rfl ?_
    have k5 : aK d (cR c11 7 a0) = (0, 10, 0) := wf_obj hW ha0 (by decide) rfl
    refine en_get (by decide +kernel : u_at kl_161 6 = some (.getfield 52, [11, 7])) hW ha0 (by decide) rfl ?_
    have k6 : aK d (cR c10 0 (cR c11 7 a0)) = (0, 8, 0) := wf_obj hW k5 (by decide) rfl
    refine en_get (by decide +kernel : u_at kl_161 9 = some (.getfield 62, [10, 0])) hW k5 (by decide) rfl ?_
    have k7 : aK d (cR c8 0 (cR c10 0 (cR c11 7 a0))) = (0, 1, 0) := wf_obj hW k6 (by decide) rfl
    refine en_get (by decide +kernel : u_at kl_161 12 = some (.getfield 66, [8, 0])) hW k6 (by decide) rfl ?_
    refine en_get (by decide +kernel : u_at kl_161 15 = some (.getfield 348, [1, 1])) hW k7 (by decide) rfl ?_
    refine en_ic_ge (by decide +kernel : u_at kl_161 18 = some (.if_icmp .ge 7, [25])) (fun b8 => ?_) (fun b8 => ?_)
    · replace hF := i_pos b8 hF
      refine en_segs [(25, .iconst 0, [])] (by decide +kernel) (y := (26, [some (.ref a0), some (.int p1)], [.int 0], h)) rfl ?_
      obtain rfl := Option.some.inj hF
      exact j2
    · replace hF := i_neg b8 hF
      refine en_segs [(21, .iconst 1, []), (22, .goto 4, [26])] (by decide +kernel) (y := (26, [some (.ref a0), some (.int p1)], [.int 1], h)) rfl ?_
      obtain rfl := Option.some.inj hF
      exact j2
def F_129 (c1 : Cl) (c8 : Cl) (c10 : Cl) (c11 : Cl) (a0 : Nat) (p1 : Int32) (p2 : Int32) : Option Int32 :=
  F_161 c1 c8 c10 c11 a0 p1 >>= fun r1 =>
  if r1 = 0 then
  some (-1)
  else
  if p2 = 0 then
  ald (cA c1 5 (cR c8 0 (cR c10 0 (cR c11 7 a0)))) 10 p1 >>= fun v7 =>
  some v7
  else
  if p2 = 1 then
  ald (cA c1 6 (cR c8 0 (cR c10 0 (cR c11 7 a0)))) 10 p1 >>= fun v10 =>
  some v10
  else
  if p2 = 2 then
  F_85 c8 (cR c10 0 (cR c11 7 a0)) p1 >>= fun r12 =>
  ((if r12 = 0 then
  some 0
  else
  some 1) : Option (Int32)) >>= fun (t13 : Int32) =>
  some t13
  else
  some (-1)
set_option maxRecDepth 100000 in
set_option maxHeartbeats 4000000 in
/-- HeadCounts.door -/
theorem e_129 {D : Nat} {c0 c1 c2 c3 c4 c5 c6 c7 c8 c9 c10 c11 c12 c13 : Cl} {d : Ad} {h : UH} {a0 : Nat} {p1 : Int32} {p2 : Int32} {r : Int32} (hD : 2 ≤ D) (hW : HW (mkw c0 c1 c2 c3 c4 c5 c6 c7 c8 c9 c10 c11 c12 c13) d h) (ha0 : aK d a0 = (0, 11, 0)) (hF : F_129 c1 c8 c10 c11 a0 p1 p2 = some r) : ∃ q, EX D 129 [.ref a0, .int p1, .int p2] h q ∧ q.1 = some (.int r) ∧ h = q.2 := by
  obtain ⟨D, rfl⟩ : ∃ E, D = E + 1 := ⟨D - 1, by omega⟩
  unfold F_129 at hF
  refine ex_in (kl := kl_129) (nL := 4) rfl (by decide +kernel) (Nat.le_of_ble_eq_true rfl) ?_
  obtain ⟨QQ, hQQ⟩ : ∃ QQ : UR → Prop, QQ = (fun q : UR => q.1 = some (.int r) ∧ h = q.2) := ⟨_, rfl⟩
  rw [← hQQ]
  have hQ : QQ (some (.int r), h) := by rw [hQQ]; exact ⟨rfl, rfl⟩
  clear hQQ
  show Ends (EX D) (u_at kl_129) (0, [some (.ref a0), some (.int p1), some (.int p2), none], [], h) QQ
  refine en_segs [(0, .aload_n 0, []), (1, .iload_n 1, [])] (by decide +kernel) (y := (2, [some (.ref a0), some (.int p1), some (.int p2), none], [.int p1, .ref a0], h)) rfl ?_
  obtain ⟨r1, hr1, hF⟩ := ob_some hF
  refine en_vi (r := []) (by decide +kernel : u_at kl_129 2 = some (.invokevirtual 183, [161, 1, 11])) hW ha0 rfl rfl (Nat.le_of_ble_eq_true rfl) (e_161 (D := D) (by omega) hW ha0 hr1) (fun h' q => ?_)
  subst q
  refine en_if_ne (by decide +kernel : u_at kl_129 5 = some (.ifCond .ne 5, [10])) (fun b2 => ?_) (fun b2 => ?_)
  · replace hF := i_pos b2 hF
    refine en_segs [(8, .iconst (-1), [])] (by decide +kernel) (y := (9, [some (.ref a0), some (.int p1), some (.int p2), none], [.int (-1)], h)) rfl ?_
    obtain rfl := Option.some.inj hF
    exact en_ret (by decide +kernel : u_at kl_129 9 = some (.ireturn, [0])) rfl (hQ)
  · replace hF := i_neg b2 hF
    refine en_segs [(10, .aload_n 0, [])] (by decide +kernel) (y := (11, [some (.ref a0), some (.int p1), some (.int p2), none], [.ref a0], h)) rfl ?_
    have k3 : aK d (cR c11 7 a0) = (0, 10, 0) := wf_obj hW ha0 (by decide) rfl
    refine en_get (by decide +kernel : u_at kl_129 11 = some (.getfield 52, [11, 7])) hW ha0 (by decide) rfl ?_
    have k4 : aK d (cR c10 0 (cR c11 7 a0)) = (0, 8, 0) := wf_obj hW k3 (by decide) rfl
    refine en_get (by decide +kernel : u_at kl_129 14 = some (.getfield 62, [10, 0])) hW k3 (by decide) rfl ?_
    refine en_segs [(17, .astore_n 3, []), (18, .iload_n 2, [])] (by decide +kernel) (y := (19, [some (.ref a0), some (.int p1), some (.int p2), some (.ref (cR c10 0 (cR c11 7 a0)))], [.int p2], h)) rfl ?_
    by_cases b5 : p2 = 0
    · replace hF := i_pos b5 hF
      refine en_tsC (by decide +kernel : u_at kl_129 19 = some (.tableswitch 59 0 2 #[25, 35, 45], [78, 44, 54, 64])) (by rw [b5]; decide) (u := 44) (by rw [b5]; rfl) ?_
      refine en_segs [(44, .aload_n 3, [])] (by decide +kernel) (y := (45, [some (.ref a0), some (.int p1), some (.int p2), some (.ref (cR c10 0 (cR c11 7 a0)))], [.ref (cR c10 0 (cR c11 7 a0))], h)) rfl ?_
      have k6 : aK d (cR c8 0 (cR c10 0 (cR c11 7 a0))) = (0, 1, 0) := wf_obj hW k4 (by decide) rfl
      refine en_get (by decide +kernel : u_at kl_129 45 = some (.getfield 66, [8, 0])) hW k4 (by decide) rfl ?_
      refine en_get (by decide +kernel : u_at kl_129 48 = some (.getfield 186, [1, 5])) hW k6 (by decide) rfl ?_
      refine en_segs [(51, .iload_n 1, [])] (by decide +kernel) (y := (52, [some (.ref a0), some (.int p1), some (.int p2), some (.ref (cR c10 0 (cR c11 7 a0)))], [.int p1, .ref (aP d 1 5 (cR c8 0 (cR c10 0 (cR c11 7 a0))))], h)) rfl ?_
      obtain ⟨v7, hv7, hF⟩ := ob_some hF
      refine en_iald (by decide +kernel : u_at kl_129 52 = some (.iaload, [])) hW k6 rfl (by decide) hv7 ?_
      obtain rfl := Option.some.inj hF
      exact en_ret (by decide +kernel : u_at kl_129 53 = some (.ireturn, [0])) rfl (hQ)
    · replace hF := i_neg b5 hF
      by_cases b8 : p2 = 1
      · replace hF := i_pos b8 hF
        refine en_tsC (by decide +kernel : u_at kl_129 19 = some (.tableswitch 59 0 2 #[25, 35, 45], [78, 44, 54, 64])) (by rw [b8]; decide) (u := 54) (by rw [b8]; rfl) ?_
        refine en_segs [(54, .aload_n 3, [])] (by decide +kernel) (y := (55, [some (.ref a0), some (.int p1), some (.int p2), some (.ref (cR c10 0 (cR c11 7 a0)))], [.ref (cR c10 0 (cR c11 7 a0))], h)) rfl ?_
        have k9 : aK d (cR c8 0 (cR c10 0 (cR c11 7 a0))) = (0, 1, 0) := wf_obj hW k4 (by decide) rfl
        refine en_get (by decide +kernel : u_at kl_129 55 = some (.getfield 66, [8, 0])) hW k4 (by decide) rfl ?_
        refine en_get (by decide +kernel : u_at kl_129 58 = some (.getfield 189, [1, 6])) hW k9 (by decide) rfl ?_
        refine en_segs [(61, .iload_n 1, [])] (by decide +kernel) (y := (62, [some (.ref a0), some (.int p1), some (.int p2), some (.ref (cR c10 0 (cR c11 7 a0)))], [.int p1, .ref (aP d 1 6 (cR c8 0 (cR c10 0 (cR c11 7 a0))))], h)) rfl ?_
        obtain ⟨v10, hv10, hF⟩ := ob_some hF
        refine en_iald (by decide +kernel : u_at kl_129 62 = some (.iaload, [])) hW k9 rfl (by decide) hv10 ?_
        obtain rfl := Option.some.inj hF
        exact en_ret (by decide +kernel : u_at kl_129 63 = some (.ireturn, [0])) rfl (hQ)
      · replace hF := i_neg b8 hF
        by_cases b11 : p2 = 2
        · replace hF := i_pos b11 hF
          refine en_tsC (by decide +kernel : u_at kl_129 19 = some (.tableswitch 59 0 2 #[25, 35, 45], [78, 44, 54, 64])) (by rw [b11]; decide) (u := 64) (by rw [b11]; rfl) ?_
          refine en_segs [(64, .aload_n 3, []), (65, .iload_n 1, [])] (by decide +kernel) (y := (66, [some (.ref a0), some (.int p1), some (.int p2), some (.ref (cR c10 0 (cR c11 7 a0)))], [.int p1, .ref (cR c10 0 (cR c11 7 a0))], h)) rfl ?_
          obtain ⟨r12, hr12, hF⟩ := ob_some hF
          refine en_vi (r := []) (by decide +kernel : u_at kl_129 66 = some (.invokevirtual 192, [85, 1, 8])) hW k4 rfl rfl (Nat.le_of_ble_eq_true rfl) (e_85 (D := D) (by omega) hW k4 hr12) (fun h' q => ?_)
          subst q
          obtain ⟨t13, hX, hK⟩ := ob_some hF
          have j14 : Ends (EX D) (u_at kl_129) (77, [some (.ref a0), some (.int p1), some (.int p2), some (.ref (cR c10 0 (cR c11 7 a0)))], [.int t13], h) QQ := by
            have hF := hK
            obtain rfl := Option.some.inj hF
            exact en_ret (by decide +kernel : u_at kl_129 77 = some (.ireturn, [0])) rfl (hQ)
          have hF := hX
          refine en_if_eq (by decide +kernel : u_at kl_129 69 = some (.ifCond .eq 7, [76])) (fun b15 => ?_) (fun b15 => ?_)
          · replace hF := i_pos b15 hF
            refine en_segs [(76, .iconst 0, [])] (by decide +kernel) (y := (77, [some (.ref a0), some (.int p1), some (.int p2), some (.ref (cR c10 0 (cR c11 7 a0)))], [.int 0], h)) rfl ?_
            obtain rfl := Option.some.inj hF
            exact j14
          · replace hF := i_neg b15 hF
            refine en_segs [(72, .iconst 1, []), (73, .goto 4, [77])] (by decide +kernel) (y := (77, [some (.ref a0), some (.int p1), some (.int p2), some (.ref (cR c10 0 (cR c11 7 a0)))], [.int 1], h)) rfl ?_
            obtain rfl := Option.some.inj hF
            exact j14
        · replace hF := i_neg b11 hF
          have wb5 : (p2 : Int32).toInt ≠ 0 := ti_ne b5
          have wb8 : (p2 : Int32).toInt ≠ 1 := ti_ne b8
          have wb11 : (p2 : Int32).toInt ≠ 2 := ti_ne b11
          refine en_tsO (by decide +kernel : u_at kl_129 19 = some (.tableswitch 59 0 2 #[25, 35, 45], [78, 44, 54, 64])) (by omega) ?_
          refine en_segs [(78, .iconst (-1), [])] (by decide +kernel) (y := (79, [some (.ref a0), some (.int p1), some (.int p2), some (.ref (cR c10 0 (cR c11 7 a0)))], [.int (-1)], h)) rfl ?_
          obtain rfl := Option.some.inj hF
          exact en_ret (by decide +kernel : u_at kl_129 79 = some (.ireturn, [0])) rfl (hQ)
def F_162 (c1 : Cl) (c8 : Cl) (c10 : Cl) (c11 : Cl) (a0 : Nat) (p1 : Int32) : Option Int32 :=
  ((if p1 < 0 then
  some 0
  else
  if (cI c1 3 (cR c8 0 (cR c10 0 (cR c11 7 a0)))) ≤ p1 then
  some 0
  else
  some 1) : Option (Int32)) >>= fun (t1 : Int32) =>
  zb t1 >>= fun z3 => some z3
set_option maxRecDepth 100000 in
set_option maxHeartbeats 4000000 in
/-- HeadCounts.isSense -/
theorem e_162 {D : Nat} {c0 c1 c2 c3 c4 c5 c6 c7 c8 c9 c10 c11 c12 c13 : Cl} {d : Ad} {h : UH} {a0 : Nat} {p1 : Int32} {r : Int32} (hD : 1 ≤ D) (hW : HW (mkw c0 c1 c2 c3 c4 c5 c6 c7 c8 c9 c10 c11 c12 c13) d h) (ha0 : aK d a0 = (0, 11, 0)) (hF : F_162 c1 c8 c10 c11 a0 p1 = some r) : ∃ q, EX D 162 [.ref a0, .int p1] h q ∧ q.1 = some (.int r) ∧ h = q.2 := by
  obtain ⟨D, rfl⟩ : ∃ E, D = E + 1 := ⟨D - 1, by omega⟩
  unfold F_162 at hF
  refine ex_in (kl := kl_162) (nL := 2) rfl (by decide +kernel) (Nat.le_of_ble_eq_true rfl) ?_
  obtain ⟨QQ, hQQ⟩ : ∃ QQ : UR → Prop, QQ = (fun q : UR => q.1 = some (.int r) ∧ h = q.2) := ⟨_, rfl⟩
  rw [← hQQ]
  have hQ : QQ (some (.int r), h) := by rw [hQQ]; exact ⟨rfl, rfl⟩
  clear hQQ
  show Ends (EX D) (u_at kl_162) (0, [some (.ref a0), some (.int p1)], [], h) QQ
  refine en_segs [(0, .iload_n 1, [])] (by decide +kernel) (y := (1, [some (.ref a0), some (.int p1)], [.int p1], h)) rfl ?_
  obtain ⟨t1, hX, hK⟩ := ob_some hF
  have j2 : Ends (EX D) (u_at kl_162) (26, [some (.ref a0), some (.int p1)], [.int t1], h) QQ := by
    have hF := hK
    obtain ⟨z3, hz3, hF⟩ := ob_some hF
    obtain rfl := Option.some.inj hF
    exact en_retZ (by decide +kernel : u_at kl_162 26 = some (.ireturn, [1])) hz3 (hQ)
  have hF := hX
  refine en_if_lt (by decide +kernel : u_at kl_162 1 = some (.ifCond .lt 24, [25])) (fun b4 => ?_) (fun b4 => ?_)
  · replace hF := i_pos b4 hF
    refine en_segs [(25, .iconst 0, [])] (by decide +kernel) (y := (26, [some (.ref a0), some (.int p1)], [.int 0], h)) rfl ?_
    obtain rfl := Option.some.inj hF
    exact j2
  · replace hF := i_neg b4 hF
    refine en_segs [(4, .iload_n 1, []), (5, .aload_n 0, [])] (by decide +kernel) (y := (6, [some (.ref a0), some (.int p1)], [.ref a0, .int p1], h)) rfl ?_
    have k5 : aK d (cR c11 7 a0) = (0, 10, 0) := wf_obj hW ha0 (by decide) rfl
    refine en_get (by decide +kernel : u_at kl_162 6 = some (.getfield 52, [11, 7])) hW ha0 (by decide) rfl ?_
    have k6 : aK d (cR c10 0 (cR c11 7 a0)) = (0, 8, 0) := wf_obj hW k5 (by decide) rfl
    refine en_get (by decide +kernel : u_at kl_162 9 = some (.getfield 62, [10, 0])) hW k5 (by decide) rfl ?_
    have k7 : aK d (cR c8 0 (cR c10 0 (cR c11 7 a0))) = (0, 1, 0) := wf_obj hW k6 (by decide) rfl
    refine en_get (by decide +kernel : u_at kl_162 12 = some (.getfield 66, [8, 0])) hW k6 (by decide) rfl ?_
    refine en_get (by decide +kernel : u_at kl_162 15 = some (.getfield 351, [1, 3])) hW k7 (by decide) rfl ?_
    refine en_ic_ge (by decide +kernel : u_at kl_162 18 = some (.if_icmp .ge 7, [25])) (fun b8 => ?_) (fun b8 => ?_)
    · replace hF := i_pos b8 hF
      refine en_segs [(25, .iconst 0, [])] (by decide +kernel) (y := (26, [some (.ref a0), some (.int p1)], [.int 0], h)) rfl ?_
      obtain rfl := Option.some.inj hF
      exact j2
    · replace hF := i_neg b8 hF
      refine en_segs [(21, .iconst 1, []), (22, .goto 4, [26])] (by decide +kernel) (y := (26, [some (.ref a0), some (.int p1)], [.int 1], h)) rfl ?_
      obtain rfl := Option.some.inj hF
      exact j2
def F_130 (c1 : Cl) (c8 : Cl) (c10 : Cl) (c11 : Cl) (a0 : Nat) (p1 : Int32) (p2 : Int32) : Option Int32 :=
  F_162 c1 c8 c10 c11 a0 p1 >>= fun r1 =>
  if r1 = 0 then
  some (-1)
  else
  if p2 = 0 then
  ald (cA c1 11 (cR c8 0 (cR c10 0 (cR c11 7 a0)))) 6 p1 >>= fun v7 =>
  some v7
  else
  if p2 = 1 then
  F_97 c1 c8 (cR c10 0 (cR c11 7 a0)) p1 >>= fun r11 =>
  some r11
  else
  some (-1)
set_option maxRecDepth 100000 in
set_option maxHeartbeats 4000000 in
/-- HeadCounts.sense -/
theorem e_130 {D : Nat} {c0 c1 c2 c3 c4 c5 c6 c7 c8 c9 c10 c11 c12 c13 : Cl} {d : Ad} {h : UH} {a0 : Nat} {p1 : Int32} {p2 : Int32} {r : Int32} (hD : 4 ≤ D) (hW : HW (mkw c0 c1 c2 c3 c4 c5 c6 c7 c8 c9 c10 c11 c12 c13) d h) (ha0 : aK d a0 = (0, 11, 0)) (hF : F_130 c1 c8 c10 c11 a0 p1 p2 = some r) : ∃ q, EX D 130 [.ref a0, .int p1, .int p2] h q ∧ q.1 = some (.int r) ∧ h = q.2 := by
  obtain ⟨D, rfl⟩ : ∃ E, D = E + 1 := ⟨D - 1, by omega⟩
  unfold F_130 at hF
  refine ex_in (kl := kl_130) (nL := 3) rfl (by decide +kernel) (Nat.le_of_ble_eq_true rfl) ?_
  obtain ⟨QQ, hQQ⟩ : ∃ QQ : UR → Prop, QQ = (fun q : UR => q.1 = some (.int r) ∧ h = q.2) := ⟨_, rfl⟩
  rw [← hQQ]
  have hQ : QQ (some (.int r), h) := by rw [hQQ]; exact ⟨rfl, rfl⟩
  clear hQQ
  show Ends (EX D) (u_at kl_130) (0, [some (.ref a0), some (.int p1), some (.int p2)], [], h) QQ
  refine en_segs [(0, .aload_n 0, []), (1, .iload_n 1, [])] (by decide +kernel) (y := (2, [some (.ref a0), some (.int p1), some (.int p2)], [.int p1, .ref a0], h)) rfl ?_
  obtain ⟨r1, hr1, hF⟩ := ob_some hF
  refine en_vi (r := []) (by decide +kernel : u_at kl_130 2 = some (.invokevirtual 195, [162, 1, 11])) hW ha0 rfl rfl (Nat.le_of_ble_eq_true rfl) (e_162 (D := D) (by omega) hW ha0 hr1) (fun h' q => ?_)
  subst q
  refine en_if_ne (by decide +kernel : u_at kl_130 5 = some (.ifCond .ne 5, [10])) (fun b2 => ?_) (fun b2 => ?_)
  · replace hF := i_pos b2 hF
    refine en_segs [(8, .iconst (-1), [])] (by decide +kernel) (y := (9, [some (.ref a0), some (.int p1), some (.int p2)], [.int (-1)], h)) rfl ?_
    obtain rfl := Option.some.inj hF
    exact en_ret (by decide +kernel : u_at kl_130 9 = some (.ireturn, [0])) rfl (hQ)
  · replace hF := i_neg b2 hF
    refine en_segs [(10, .iload_n 2, [])] (by decide +kernel) (y := (11, [some (.ref a0), some (.int p1), some (.int p2)], [.int p2], h)) rfl ?_
    by_cases b3 : p2 = 0
    · replace hF := i_pos b3 hF
      refine en_ls (by decide +kernel : u_at kl_130 11 = some (.lookupswitch 53 #[(0, 25), (1, 41)], [])) (u := 36) (by rw [b3]; decide) ?_
      refine en_segs [(36, .aload_n 0, [])] (by decide +kernel) (y := (37, [some (.ref a0), some (.int p1), some (.int p2)], [.ref a0], h)) rfl ?_
      have k4 : aK d (cR c11 7 a0) = (0, 10, 0) := wf_obj hW ha0 (by decide) rfl
      refine en_get (by decide +kernel : u_at kl_130 37 = some (.getfield 52, [11, 7])) hW ha0 (by decide) rfl ?_
      have k5 : aK d (cR c10 0 (cR c11 7 a0)) = (0, 8, 0) := wf_obj hW k4 (by decide) rfl
      refine en_get (by decide +kernel : u_at kl_130 40 = some (.getfield 62, [10, 0])) hW k4 (by decide) rfl ?_
      have k6 : aK d (cR c8 0 (cR c10 0 (cR c11 7 a0))) = (0, 1, 0) := wf_obj hW k5 (by decide) rfl
      refine en_get (by decide +kernel : u_at kl_130 43 = some (.getfield 66, [8, 0])) hW k5 (by decide) rfl ?_
      refine en_get (by decide +kernel : u_at kl_130 46 = some (.getfield 198, [1, 11])) hW k6 (by decide) rfl ?_
      refine en_segs [(49, .iload_n 1, [])] (by decide +kernel) (y := (50, [some (.ref a0), some (.int p1), some (.int p2)], [.int p1, .ref (aP d 1 11 (cR c8 0 (cR c10 0 (cR c11 7 a0))))], h)) rfl ?_
      obtain ⟨v7, hv7, hF⟩ := ob_some hF
      refine en_iald (by decide +kernel : u_at kl_130 50 = some (.iaload, [])) hW k6 rfl (by decide) hv7 ?_
      obtain rfl := Option.some.inj hF
      exact en_ret (by decide +kernel : u_at kl_130 51 = some (.ireturn, [0])) rfl (hQ)
    · replace hF := i_neg b3 hF
      by_cases b8 : p2 = 1
      · replace hF := i_pos b8 hF
        refine en_ls (by decide +kernel : u_at kl_130 11 = some (.lookupswitch 53 #[(0, 25), (1, 41)], [])) (u := 52) (by rw [b8]; decide) ?_
        refine en_segs [(52, .aload_n 0, [])] (by decide +kernel) (y := (53, [some (.ref a0), some (.int p1), some (.int p2)], [.ref a0], h)) rfl ?_
        have k9 : aK d (cR c11 7 a0) = (0, 10, 0) := wf_obj hW ha0 (by decide) rfl
        refine en_get (by decide +kernel : u_at kl_130 53 = some (.getfield 52, [11, 7])) hW ha0 (by decide) rfl ?_
        have k10 : aK d (cR c10 0 (cR c11 7 a0)) = (0, 8, 0) := wf_obj hW k9 (by decide) rfl
        refine en_get (by decide +kernel : u_at kl_130 56 = some (.getfield 62, [10, 0])) hW k9 (by decide) rfl ?_
        refine en_segs [(59, .iload_n 1, [])] (by decide +kernel) (y := (60, [some (.ref a0), some (.int p1), some (.int p2)], [.int p1, .ref (cR c10 0 (cR c11 7 a0))], h)) rfl ?_
        obtain ⟨r11, hr11, hF⟩ := ob_some hF
        refine en_vi (r := []) (by decide +kernel : u_at kl_130 60 = some (.invokevirtual 201, [97, 1, 8])) hW k10 rfl rfl (Nat.le_of_ble_eq_true rfl) (e_97 (D := D) (by omega) hW k10 hr11) (fun h' q => ?_)
        subst q
        obtain rfl := Option.some.inj hF
        exact en_ret (by decide +kernel : u_at kl_130 63 = some (.ireturn, [0])) rfl (hQ)
      · replace hF := i_neg b8 hF
        have wb3 : (p2 : Int32).toInt ≠ 0 := ti_ne b3
        have wb8 : (p2 : Int32).toInt ≠ 1 := ti_ne b8
        refine en_ls (by decide +kernel : u_at kl_130 11 = some (.lookupswitch 53 #[(0, 25), (1, 41)], [])) (u := 64) (by simp [Op.lookupswitch.offset, Ne.symm wb3, Ne.symm wb8]) ?_
        refine en_segs [(64, .iconst (-1), [])] (by decide +kernel) (y := (65, [some (.ref a0), some (.int p1), some (.int p2)], [.int (-1)], h)) rfl ?_
        obtain rfl := Option.some.inj hF
        exact en_ret (by decide +kernel : u_at kl_130 65 = some (.ireturn, [0])) rfl (hQ)
def F_131 (c1 : Cl) (c8 : Cl) (c10 : Cl) (c11 : Cl) (a0 : Nat) (p1 : Int32) (p2 : Int32) : Option Int32 :=
  F_160 c1 c8 c10 c11 a0 p1 >>= fun r1 =>
  if r1 = 0 then
  some (-1)
  else
  if p2 < 0 then
  some (-1)
  else
  if 10 ≤ p2 then
  some (-1)
  else
  if p2 ≤ (cI c8 1 (cR c10 0 (cR c11 7 a0))) then
  F_95 c1 c8 (cR c10 0 (cR c11 7 a0)) p1 p2 >>= fun r8 =>
  some r8
  else
  some (-1)
set_option maxRecDepth 100000 in
set_option maxHeartbeats 4000000 in
/-- HeadCounts.was -/
theorem e_131 {D : Nat} {c0 c1 c2 c3 c4 c5 c6 c7 c8 c9 c10 c11 c12 c13 : Cl} {d : Ad} {h : UH} {a0 : Nat} {p1 : Int32} {p2 : Int32} {r : Int32} (hD : 2 ≤ D) (hW : HW (mkw c0 c1 c2 c3 c4 c5 c6 c7 c8 c9 c10 c11 c12 c13) d h) (ha0 : aK d a0 = (0, 11, 0)) (hF : F_131 c1 c8 c10 c11 a0 p1 p2 = some r) : ∃ q, EX D 131 [.ref a0, .int p1, .int p2] h q ∧ q.1 = some (.int r) ∧ h = q.2 := by
  obtain ⟨D, rfl⟩ : ∃ E, D = E + 1 := ⟨D - 1, by omega⟩
  unfold F_131 at hF
  refine ex_in (kl := kl_131) (nL := 3) rfl (by decide +kernel) (Nat.le_of_ble_eq_true rfl) ?_
  obtain ⟨QQ, hQQ⟩ : ∃ QQ : UR → Prop, QQ = (fun q : UR => q.1 = some (.int r) ∧ h = q.2) := ⟨_, rfl⟩
  rw [← hQQ]
  have hQ : QQ (some (.int r), h) := by rw [hQQ]; exact ⟨rfl, rfl⟩
  clear hQQ
  show Ends (EX D) (u_at kl_131) (0, [some (.ref a0), some (.int p1), some (.int p2)], [], h) QQ
  refine en_segs [(0, .aload_n 0, []), (1, .iload_n 1, [])] (by decide +kernel) (y := (2, [some (.ref a0), some (.int p1), some (.int p2)], [.int p1, .ref a0], h)) rfl ?_
  obtain ⟨r1, hr1, hF⟩ := ob_some hF
  refine en_vi (r := []) (by decide +kernel : u_at kl_131 2 = some (.invokevirtual 161, [160, 1, 11])) hW ha0 rfl rfl (Nat.le_of_ble_eq_true rfl) (e_160 (D := D) (by omega) hW ha0 hr1) (fun h' q => ?_)
  subst q
  refine en_if_eq (by decide +kernel : u_at kl_131 5 = some (.ifCond .eq 27, [32])) (fun b2 => ?_) (fun b2 => ?_)
  · replace hF := i_pos b2 hF
    refine en_segs [(32, .iconst (-1), [])] (by decide +kernel) (y := (33, [some (.ref a0), some (.int p1), some (.int p2)], [.int (-1)], h)) rfl ?_
    obtain rfl := Option.some.inj hF
    exact en_ret (by decide +kernel : u_at kl_131 33 = some (.ireturn, [0])) rfl (hQ)
  · replace hF := i_neg b2 hF
    refine en_segs [(8, .iload_n 2, [])] (by decide +kernel) (y := (9, [some (.ref a0), some (.int p1), some (.int p2)], [.int p2], h)) rfl ?_
    refine en_if_lt (by decide +kernel : u_at kl_131 9 = some (.ifCond .lt 23, [32])) (fun b3 => ?_) (fun b3 => ?_)
    · replace hF := i_pos b3 hF
      refine en_segs [(32, .iconst (-1), [])] (by decide +kernel) (y := (33, [some (.ref a0), some (.int p1), some (.int p2)], [.int (-1)], h)) rfl ?_
      obtain rfl := Option.some.inj hF
      exact en_ret (by decide +kernel : u_at kl_131 33 = some (.ireturn, [0])) rfl (hQ)
    · replace hF := i_neg b3 hF
      refine en_segs [(12, .iload_n 2, []), (13, .bipush 10, [])] (by decide +kernel) (y := (15, [some (.ref a0), some (.int p1), some (.int p2)], [.int 10, .int p2], h)) rfl ?_
      refine en_ic_ge (by decide +kernel : u_at kl_131 15 = some (.if_icmp .ge 17, [32])) (fun b4 => ?_) (fun b4 => ?_)
      · replace hF := i_pos b4 hF
        refine en_segs [(32, .iconst (-1), [])] (by decide +kernel) (y := (33, [some (.ref a0), some (.int p1), some (.int p2)], [.int (-1)], h)) rfl ?_
        obtain rfl := Option.some.inj hF
        exact en_ret (by decide +kernel : u_at kl_131 33 = some (.ireturn, [0])) rfl (hQ)
      · replace hF := i_neg b4 hF
        refine en_segs [(18, .iload_n 2, []), (19, .aload_n 0, [])] (by decide +kernel) (y := (20, [some (.ref a0), some (.int p1), some (.int p2)], [.ref a0, .int p2], h)) rfl ?_
        have k5 : aK d (cR c11 7 a0) = (0, 10, 0) := wf_obj hW ha0 (by decide) rfl
        refine en_get (by decide +kernel : u_at kl_131 20 = some (.getfield 52, [11, 7])) hW ha0 (by decide) rfl ?_
        have k6 : aK d (cR c10 0 (cR c11 7 a0)) = (0, 8, 0) := wf_obj hW k5 (by decide) rfl
        refine en_get (by decide +kernel : u_at kl_131 23 = some (.getfield 62, [10, 0])) hW k5 (by decide) rfl ?_
        refine en_get (by decide +kernel : u_at kl_131 26 = some (.getfield 204, [8, 1])) hW k6 (by decide) rfl ?_
        refine en_ic_le (by decide +kernel : u_at kl_131 29 = some (.if_icmp .le 5, [34])) (fun b7 => ?_) (fun b7 => ?_)
        · replace hF := i_pos b7 hF
          refine en_segs [(34, .aload_n 0, [])] (by decide +kernel) (y := (35, [some (.ref a0), some (.int p1), some (.int p2)], [.ref a0], h)) rfl ?_
          refine en_get (by decide +kernel : u_at kl_131 35 = some (.getfield 52, [11, 7])) hW ha0 (by decide) rfl ?_
          refine en_get (by decide +kernel : u_at kl_131 38 = some (.getfield 62, [10, 0])) hW k5 (by decide) rfl ?_
          refine en_segs [(41, .iload_n 1, []), (42, .iload_n 2, [])] (by decide +kernel) (y := (43, [some (.ref a0), some (.int p1), some (.int p2)], [.int p2, .int p1, .ref (cR c10 0 (cR c11 7 a0))], h)) rfl ?_
          obtain ⟨r8, hr8, hF⟩ := ob_some hF
          refine en_vi (r := []) (by decide +kernel : u_at kl_131 43 = some (.invokevirtual 207, [95, 2, 8])) hW k6 rfl rfl (Nat.le_of_ble_eq_true rfl) (e_95 (D := D) (by omega) hW k6 hr8) (fun h' q => ?_)
          subst q
          obtain rfl := Option.some.inj hF
          exact en_ret (by decide +kernel : u_at kl_131 46 = some (.ireturn, [0])) rfl (hQ)
        · replace hF := i_neg b7 hF
          refine en_segs [(32, .iconst (-1), [])] (by decide +kernel) (y := (33, [some (.ref a0), some (.int p1), some (.int p2)], [.int (-1)], h)) rfl ?_
          obtain rfl := Option.some.inj hF
          exact en_ret (by decide +kernel : u_at kl_131 33 = some (.ireturn, [0])) rfl (hQ)
def F_165 (c8 : Cl) (c10 : Cl) (c11 : Cl) (a0 : Nat) (p1 : Int32) : Option Int32 :=
  ((if 9999 < ((cI c8 1 (cR c10 0 (cR c11 7 a0))) + p1) then
  some 0
  else
  some 1) : Option (Int32)) >>= fun (t3 : Int32) =>
  zb t3 >>= fun z5 => some z5
set_option maxRecDepth 100000 in
set_option maxHeartbeats 4000000 in
/-- HeadCounts.canPass -/
theorem e_165 {D : Nat} {c0 c1 c2 c3 c4 c5 c6 c7 c8 c9 c10 c11 c12 c13 : Cl} {d : Ad} {h : UH} {a0 : Nat} {p1 : Int32} {r : Int32} (hD : 1 ≤ D) (hW : HW (mkw c0 c1 c2 c3 c4 c5 c6 c7 c8 c9 c10 c11 c12 c13) d h) (ha0 : aK d a0 = (0, 11, 0)) (hF : F_165 c8 c10 c11 a0 p1 = some r) : ∃ q, EX D 165 [.ref a0, .int p1] h q ∧ q.1 = some (.int r) ∧ h = q.2 := by
  obtain ⟨D, rfl⟩ : ∃ E, D = E + 1 := ⟨D - 1, by omega⟩
  unfold F_165 at hF
  refine ex_in (kl := kl_165) (nL := 2) rfl (by decide +kernel) (Nat.le_of_ble_eq_true rfl) ?_
  obtain ⟨QQ, hQQ⟩ : ∃ QQ : UR → Prop, QQ = (fun q : UR => q.1 = some (.int r) ∧ h = q.2) := ⟨_, rfl⟩
  rw [← hQQ]
  have hQ : QQ (some (.int r), h) := by rw [hQQ]; exact ⟨rfl, rfl⟩
  clear hQQ
  show Ends (EX D) (u_at kl_165) (0, [some (.ref a0), some (.int p1)], [], h) QQ
  refine en_segs [(0, .aload_n 0, [])] (by decide +kernel) (y := (1, [some (.ref a0), some (.int p1)], [.ref a0], h)) rfl ?_
  have k1 : aK d (cR c11 7 a0) = (0, 10, 0) := wf_obj hW ha0 (by decide) rfl
  refine en_get (by decide +kernel : u_at kl_165 1 = some (.getfield 52, [11, 7])) hW ha0 (by decide) rfl ?_
  have k2 : aK d (cR c10 0 (cR c11 7 a0)) = (0, 8, 0) := wf_obj hW k1 (by decide) rfl
  refine en_get (by decide +kernel : u_at kl_165 4 = some (.getfield 62, [10, 0])) hW k1 (by decide) rfl ?_
  refine en_get (by decide +kernel : u_at kl_165 7 = some (.getfield 204, [8, 1])) hW k2 (by decide) rfl ?_
  refine en_segs [(10, .iload_n 1, []), (11, .iadd, []), (12, .sipush 9999, [])] (by decide +kernel) (y := (15, [some (.ref a0), some (.int p1)], [.int 9999, .int ((cI c8 1 (cR c10 0 (cR c11 7 a0))) + p1)], h)) rfl ?_
  obtain ⟨t3, hX, hK⟩ := ob_some hF
  have j4 : Ends (EX D) (u_at kl_165) (23, [some (.ref a0), some (.int p1)], [.int t3], h) QQ := by
    have hF := hK
    obtain ⟨z5, hz5, hF⟩ := ob_some hF
    obtain rfl := Option.some.inj hF
    exact en_retZ (by decide +kernel : u_at kl_165 23 = some (.ireturn, [1])) hz5 (hQ)
  have hF := hX
  refine en_ic_gt (by decide +kernel : u_at kl_165 15 = some (.if_icmp .gt 7, [22])) (fun b6 => ?_) (fun b6 => ?_)
  · replace hF := i_pos b6 hF
    refine en_segs [(22, .iconst 0, [])] (by decide +kernel) (y := (23, [some (.ref a0), some (.int p1)], [.int 0], h)) rfl ?_
    obtain rfl := Option.some.inj hF
    exact j4
  · replace hF := i_neg b6 hF
    refine en_segs [(18, .iconst 1, []), (19, .goto 4, [23])] (by decide +kernel) (y := (23, [some (.ref a0), some (.int p1)], [.int 1], h)) rfl ?_
    obtain rfl := Option.some.inj hF
    exact j4
def F_132 (c1 : Cl) (c7 : Cl) (c8 : Cl) (c10 : Cl) (c11 : Cl) (a0 : Nat) (p1 : Int32) (p2 : Int32) (p3 : Int32) : Option (Int32 × Cl × Cl × Cl) :=
  F_158 c1 c8 c10 c11 a0 p1 >>= fun r1 =>
  if r1 = 0 then
  some ((-1), c7, c8, c10)
  else
  F_160 c1 c8 c10 c11 a0 p2 >>= fun r3 =>
  if r3 = 0 then
  some ((-1), c7, c8, c10)
  else
  F_165 c8 c10 c11 a0 1 >>= fun r5 =>
  if r5 = 0 then
  some ((-1), c7, c8, c10)
  else
  F_91 c1 c8 (cR c10 0 (cR c11 7 a0)) p1 p2 >>= fun r9 =>
  if r9 = 0 then
  some ((-1), c7, c8, c10)
  else
  F_119 c1 c8 c10 (cR c11 7 a0) p1 p2 p3 >>= fun r11 =>
  some (sI c7 1 (cR c11 12 a0) 0) >>= fun c7_13 =>
  some (cI r11.1 1 (cR r11.2 0 (cR c11 7 a0)), c7_13, r11.1, r11.2)
set_option maxRecDepth 100000 in
set_option maxHeartbeats 4000000 in
/-- HeadCounts.go -/
theorem e_132 {D : Nat} {c0 c1 c2 c3 c4 c5 c6 c7 c8 c9 c10 c11 c12 c13 : Cl} {d : Ad} {h : UH} {a0 : Nat} {p1 : Int32} {p2 : Int32} {p3 : Int32} {r : (Int32 × Cl × Cl × Cl)} (hD : 5 ≤ D) (hW : HW (mkw c0 c1 c2 c3 c4 c5 c6 c7 c8 c9 c10 c11 c12 c13) d h) (ha0 : aK d a0 = (0, 11, 0)) (hF : F_132 c1 c7 c8 c10 c11 a0 p1 p2 p3 = some r) : ∃ q, EX D 132 [.ref a0, .int p1, .int p2, .int p3] h q ∧ q.1 = some (.int r.1) ∧ HW (mkw c0 c1 c2 c3 c4 c5 c6 r.2.1 r.2.2.1 c9 r.2.2.2 c11 c12 c13) d q.2 := by
  obtain ⟨D, rfl⟩ : ∃ E, D = E + 1 := ⟨D - 1, by omega⟩
  unfold F_132 at hF
  refine ex_in (kl := kl_132) (nL := 4) rfl (by decide +kernel) (Nat.le_of_ble_eq_true rfl) ?_
  obtain ⟨QQ, hQQ⟩ : ∃ QQ : UR → Prop, QQ = (fun q : UR => q.1 = some (.int r.1) ∧ HW (mkw c0 c1 c2 c3 c4 c5 c6 r.2.1 r.2.2.1 c9 r.2.2.2 c11 c12 c13) d q.2) := ⟨_, rfl⟩
  rw [← hQQ]
  have hQ : ∀ h' : UH, HW (mkw c0 c1 c2 c3 c4 c5 c6 r.2.1 r.2.2.1 c9 r.2.2.2 c11 c12 c13) d h' → QQ (some (.int r.1), h') := fun h' p => by rw [hQQ]; exact ⟨rfl, p⟩
  clear hQQ
  show Ends (EX D) (u_at kl_132) (0, [some (.ref a0), some (.int p1), some (.int p2), some (.int p3)], [], h) QQ
  refine en_segs [(0, .aload_n 0, []), (1, .iload_n 1, [])] (by decide +kernel) (y := (2, [some (.ref a0), some (.int p1), some (.int p2), some (.int p3)], [.int p1, .ref a0], h)) rfl ?_
  obtain ⟨r1, hr1, hF⟩ := ob_some hF
  refine en_vi (r := []) (by decide +kernel : u_at kl_132 2 = some (.invokevirtual 135, [158, 1, 11])) hW ha0 rfl rfl (Nat.le_of_ble_eq_true rfl) (e_158 (D := D) (by omega) hW ha0 hr1) (fun h' q => ?_)
  subst q
  refine en_if_eq (by decide +kernel : u_at kl_132 5 = some (.ifCond .eq 34, [39])) (fun b2 => ?_) (fun b2 => ?_)
  · replace hF := i_pos b2 hF
    refine en_segs [(39, .iconst (-1), [])] (by decide +kernel) (y := (40, [some (.ref a0), some (.int p1), some (.int p2), some (.int p3)], [.int (-1)], h)) rfl ?_
    obtain rfl := Option.some.inj hF
    exact en_ret (by decide +kernel : u_at kl_132 40 = some (.ireturn, [0])) rfl (hQ _ hW)
  · replace hF := i_neg b2 hF
    refine en_segs [(8, .aload_n 0, []), (9, .iload_n 2, [])] (by decide +kernel) (y := (10, [some (.ref a0), some (.int p1), some (.int p2), some (.int p3)], [.int p2, .ref a0], h)) rfl ?_
    obtain ⟨r3, hr3, hF⟩ := ob_some hF
    refine en_vi (r := []) (by decide +kernel : u_at kl_132 10 = some (.invokevirtual 161, [160, 1, 11])) hW ha0 rfl rfl (Nat.le_of_ble_eq_true rfl) (e_160 (D := D) (by omega) hW ha0 hr3) (fun h' q => ?_)
    subst q
    refine en_if_eq (by decide +kernel : u_at kl_132 13 = some (.ifCond .eq 26, [39])) (fun b4 => ?_) (fun b4 => ?_)
    · replace hF := i_pos b4 hF
      refine en_segs [(39, .iconst (-1), [])] (by decide +kernel) (y := (40, [some (.ref a0), some (.int p1), some (.int p2), some (.int p3)], [.int (-1)], h)) rfl ?_
      obtain rfl := Option.some.inj hF
      exact en_ret (by decide +kernel : u_at kl_132 40 = some (.ireturn, [0])) rfl (hQ _ hW)
    · replace hF := i_neg b4 hF
      refine en_segs [(16, .aload_n 0, []), (17, .iconst 1, [])] (by decide +kernel) (y := (18, [some (.ref a0), some (.int p1), some (.int p2), some (.int p3)], [.int 1, .ref a0], h)) rfl ?_
      obtain ⟨r5, hr5, hF⟩ := ob_some hF
      refine en_vi (r := []) (by decide +kernel : u_at kl_132 18 = some (.invokevirtual 211, [165, 1, 11])) hW ha0 rfl rfl (Nat.le_of_ble_eq_true rfl) (e_165 (D := D) (by omega) hW ha0 hr5) (fun h' q => ?_)
      subst q
      refine en_if_eq (by decide +kernel : u_at kl_132 21 = some (.ifCond .eq 18, [39])) (fun b6 => ?_) (fun b6 => ?_)
      · replace hF := i_pos b6 hF
        refine en_segs [(39, .iconst (-1), [])] (by decide +kernel) (y := (40, [some (.ref a0), some (.int p1), some (.int p2), some (.int p3)], [.int (-1)], h)) rfl ?_
        obtain rfl := Option.some.inj hF
        exact en_ret (by decide +kernel : u_at kl_132 40 = some (.ireturn, [0])) rfl (hQ _ hW)
      · replace hF := i_neg b6 hF
        refine en_segs [(24, .aload_n 0, [])] (by decide +kernel) (y := (25, [some (.ref a0), some (.int p1), some (.int p2), some (.int p3)], [.ref a0], h)) rfl ?_
        have k7 : aK d (cR c11 7 a0) = (0, 10, 0) := wf_obj hW ha0 (by decide) rfl
        refine en_get (by decide +kernel : u_at kl_132 25 = some (.getfield 52, [11, 7])) hW ha0 (by decide) rfl ?_
        have k8 : aK d (cR c10 0 (cR c11 7 a0)) = (0, 8, 0) := wf_obj hW k7 (by decide) rfl
        refine en_get (by decide +kernel : u_at kl_132 28 = some (.getfield 62, [10, 0])) hW k7 (by decide) rfl ?_
        refine en_segs [(31, .iload_n 1, []), (32, .iload_n 2, [])] (by decide +kernel) (y := (33, [some (.ref a0), some (.int p1), some (.int p2), some (.int p3)], [.int p2, .int p1, .ref (cR c10 0 (cR c11 7 a0))], h)) rfl ?_
        obtain ⟨r9, hr9, hF⟩ := ob_some hF
        refine en_vi (r := []) (by decide +kernel : u_at kl_132 33 = some (.invokevirtual 214, [91, 2, 8])) hW k8 rfl rfl (Nat.le_of_ble_eq_true rfl) (e_91 (D := D) (by omega) hW k8 hr9) (fun h' q => ?_)
        subst q
        refine en_if_ne (by decide +kernel : u_at kl_132 36 = some (.ifCond .ne 5, [41])) (fun b10 => ?_) (fun b10 => ?_)
        · replace hF := i_pos b10 hF
          refine en_segs [(39, .iconst (-1), [])] (by decide +kernel) (y := (40, [some (.ref a0), some (.int p1), some (.int p2), some (.int p3)], [.int (-1)], h)) rfl ?_
          obtain rfl := Option.some.inj hF
          exact en_ret (by decide +kernel : u_at kl_132 40 = some (.ireturn, [0])) rfl (hQ _ hW)
        · replace hF := i_neg b10 hF
          refine en_segs [(41, .aload_n 0, [])] (by decide +kernel) (y := (42, [some (.ref a0), some (.int p1), some (.int p2), some (.int p3)], [.ref a0], h)) rfl ?_
          refine en_get (by decide +kernel : u_at kl_132 42 = some (.getfield 52, [11, 7])) hW ha0 (by decide) rfl ?_
          refine en_segs [(45, .iload_n 1, []), (46, .iload_n 2, []), (47, .iload_n 3, [])] (by decide +kernel) (y := (48, [some (.ref a0), some (.int p1), some (.int p2), some (.int p3)], [.int p3, .int p2, .int p1, .ref (cR c11 7 a0)], h)) rfl ?_
          obtain ⟨r11, hr11, hF⟩ := ob_some hF
          refine en_vv (r := []) (by decide +kernel : u_at kl_132 48 = some (.invokevirtual 218, [119, 3, 10])) hW k7 rfl rfl (Nat.le_of_ble_eq_true rfl) (e_119 (D := D) (by omega) hW k7 hr11) (fun h hW => ?_)
          have hW : HW (mkw c0 c1 c2 c3 c4 c5 c6 c7 r11.1 c9 r11.2 c11 c12 c13) d h := hW
          refine en_segs [(51, .aload_n 0, [])] (by decide +kernel) (y := (52, [some (.ref a0), some (.int p1), some (.int p2), some (.int p3)], [.ref a0], h)) rfl ?_
          have k12 : aK d (cR c11 12 a0) = (0, 7, 0) := wf_obj hW ha0 (by decide) rfl
          refine en_get (by decide +kernel : u_at kl_132 52 = some (.getfield 86, [11, 12])) hW ha0 (by decide) rfl ?_
          refine en_segs [(55, .iconst 0, [])] (by decide +kernel) (y := (56, [some (.ref a0), some (.int p1), some (.int p2), some (.int p3)], [.int 0, .ref (cR c11 12 a0)], h)) rfl ?_
          obtain ⟨c7_13, hc7_13, hF⟩ := ob_some hF
          refine en_putI (by decide +kernel : u_at kl_132 56 = some (.putfield 122, [7, 1, 2])) hW k12 rfl (by decide) rfl (fun h hW => ?_)
          have hW : HW (mkw c0 c1 c2 c3 c4 c5 c6 c7_13 r11.1 c9 r11.2 c11 c12 c13) d h := by rw [← Option.some.inj hc7_13]; exact hW
          refine en_segs [(59, .aload_n 0, [])] (by decide +kernel) (y := (60, [some (.ref a0), some (.int p1), some (.int p2), some (.int p3)], [.ref a0], h)) rfl ?_
          refine en_get (by decide +kernel : u_at kl_132 60 = some (.getfield 52, [11, 7])) hW ha0 (by decide) rfl ?_
          have k14 : aK d (cR r11.2 0 (cR c11 7 a0)) = (0, 8, 0) := wf_obj hW k7 (by decide) rfl
          refine en_get (by decide +kernel : u_at kl_132 63 = some (.getfield 62, [10, 0])) hW k7 (by decide) rfl ?_
          refine en_get (by decide +kernel : u_at kl_132 66 = some (.getfield 204, [8, 1])) hW k14 (by decide) rfl ?_
          obtain rfl := Option.some.inj hF
          exact en_ret (by decide +kernel : u_at kl_132 69 = some (.ireturn, [0])) rfl (hQ _ hW)
def F_157 (c1 : Cl) (c8 : Cl) (c10 : Cl) (c11 : Cl) (a0 : Nat) : Option Int32 :=
  ((if (cI c1 0 (cR c8 0 (cR c10 0 (cR c11 7 a0)))) ≤ 0 then
  some 0
  else
  some 1) : Option (Int32)) >>= fun (t4 : Int32) =>
  zb t4 >>= fun z6 => some z6
set_option maxRecDepth 100000 in
set_option maxHeartbeats 4000000 in
/-- HeadCounts.hasHouse -/
theorem e_157 {D : Nat} {c0 c1 c2 c3 c4 c5 c6 c7 c8 c9 c10 c11 c12 c13 : Cl} {d : Ad} {h : UH} {a0 : Nat} {r : Int32} (hD : 1 ≤ D) (hW : HW (mkw c0 c1 c2 c3 c4 c5 c6 c7 c8 c9 c10 c11 c12 c13) d h) (ha0 : aK d a0 = (0, 11, 0)) (hF : F_157 c1 c8 c10 c11 a0 = some r) : ∃ q, EX D 157 [.ref a0] h q ∧ q.1 = some (.int r) ∧ h = q.2 := by
  obtain ⟨D, rfl⟩ : ∃ E, D = E + 1 := ⟨D - 1, by omega⟩
  unfold F_157 at hF
  refine ex_in (kl := kl_157) (nL := 1) rfl (by decide +kernel) (Nat.le_of_ble_eq_true rfl) ?_
  obtain ⟨QQ, hQQ⟩ : ∃ QQ : UR → Prop, QQ = (fun q : UR => q.1 = some (.int r) ∧ h = q.2) := ⟨_, rfl⟩
  rw [← hQQ]
  have hQ : QQ (some (.int r), h) := by rw [hQQ]; exact ⟨rfl, rfl⟩
  clear hQQ
  show Ends (EX D) (u_at kl_157) (0, [some (.ref a0)], [], h) QQ
  refine en_segs [(0, .aload_n 0, [])] (by decide +kernel) (y := (1, [some (.ref a0)], [.ref a0], h)) rfl ?_
  have k1 : aK d (cR c11 7 a0) = (0, 10, 0) := wf_obj hW ha0 (by decide) rfl
  refine en_get (by decide +kernel : u_at kl_157 1 = some (.getfield 52, [11, 7])) hW ha0 (by decide) rfl ?_
  have k2 : aK d (cR c10 0 (cR c11 7 a0)) = (0, 8, 0) := wf_obj hW k1 (by decide) rfl
  refine en_get (by decide +kernel : u_at kl_157 4 = some (.getfield 62, [10, 0])) hW k1 (by decide) rfl ?_
  have k3 : aK d (cR c8 0 (cR c10 0 (cR c11 7 a0))) = (0, 1, 0) := wf_obj hW k2 (by decide) rfl
  refine en_get (by decide +kernel : u_at kl_157 7 = some (.getfield 66, [8, 0])) hW k2 (by decide) rfl ?_
  refine en_get (by decide +kernel : u_at kl_157 10 = some (.getfield 288, [1, 0])) hW k3 (by decide) rfl ?_
  obtain ⟨t4, hX, hK⟩ := ob_some hF
  have j5 : Ends (EX D) (u_at kl_157) (21, [some (.ref a0)], [.int t4], h) QQ := by
    have hF := hK
    obtain ⟨z6, hz6, hF⟩ := ob_some hF
    obtain rfl := Option.some.inj hF
    exact en_retZ (by decide +kernel : u_at kl_157 21 = some (.ireturn, [1])) hz6 (hQ)
  have hF := hX
  refine en_if_le (by decide +kernel : u_at kl_157 13 = some (.ifCond .le 7, [20])) (fun b7 => ?_) (fun b7 => ?_)
  · replace hF := i_pos b7 hF
    refine en_segs [(20, .iconst 0, [])] (by decide +kernel) (y := (21, [some (.ref a0)], [.int 0], h)) rfl ?_
    obtain rfl := Option.some.inj hF
    exact j5
  · replace hF := i_neg b7 hF
    refine en_segs [(16, .iconst 1, []), (17, .goto 4, [21])] (by decide +kernel) (y := (21, [some (.ref a0)], [.int 1], h)) rfl ?_
    obtain rfl := Option.some.inj hF
    exact j5
def F_133 (c1 : Cl) (c8 : Cl) (c10 : Cl) (c11 : Cl) (a0 : Nat) : Option (Int32 × Cl × Cl) :=
  F_157 c1 c8 c10 c11 a0 >>= fun r1 =>
  if r1 = 0 then
  some ((-1), c8, c10)
  else
  F_165 c8 c10 c11 a0 1 >>= fun r3 =>
  if r3 = 0 then
  some ((-1), c8, c10)
  else
  F_119 c1 c8 c10 (cR c11 7 a0) (-1) (-1) 0 >>= fun r6 =>
  some (cI r6.1 1 (cR r6.2 0 (cR c11 7 a0)), r6.1, r6.2)
set_option maxRecDepth 100000 in
set_option maxHeartbeats 4000000 in
/-- HeadCounts.rest -/
theorem e_133 {D : Nat} {c0 c1 c2 c3 c4 c5 c6 c7 c8 c9 c10 c11 c12 c13 : Cl} {d : Ad} {h : UH} {a0 : Nat} {r : (Int32 × Cl × Cl)} (hD : 5 ≤ D) (hW : HW (mkw c0 c1 c2 c3 c4 c5 c6 c7 c8 c9 c10 c11 c12 c13) d h) (ha0 : aK d a0 = (0, 11, 0)) (hF : F_133 c1 c8 c10 c11 a0 = some r) : ∃ q, EX D 133 [.ref a0] h q ∧ q.1 = some (.int r.1) ∧ HW (mkw c0 c1 c2 c3 c4 c5 c6 c7 r.2.1 c9 r.2.2 c11 c12 c13) d q.2 := by
  obtain ⟨D, rfl⟩ : ∃ E, D = E + 1 := ⟨D - 1, by omega⟩
  unfold F_133 at hF
  refine ex_in (kl := kl_133) (nL := 1) rfl (by decide +kernel) (Nat.le_of_ble_eq_true rfl) ?_
  obtain ⟨QQ, hQQ⟩ : ∃ QQ : UR → Prop, QQ = (fun q : UR => q.1 = some (.int r.1) ∧ HW (mkw c0 c1 c2 c3 c4 c5 c6 c7 r.2.1 c9 r.2.2 c11 c12 c13) d q.2) := ⟨_, rfl⟩
  rw [← hQQ]
  have hQ : ∀ h' : UH, HW (mkw c0 c1 c2 c3 c4 c5 c6 c7 r.2.1 c9 r.2.2 c11 c12 c13) d h' → QQ (some (.int r.1), h') := fun h' p => by rw [hQQ]; exact ⟨rfl, p⟩
  clear hQQ
  show Ends (EX D) (u_at kl_133) (0, [some (.ref a0)], [], h) QQ
  refine en_segs [(0, .aload_n 0, [])] (by decide +kernel) (y := (1, [some (.ref a0)], [.ref a0], h)) rfl ?_
  obtain ⟨r1, hr1, hF⟩ := ob_some hF
  refine en_vi (r := []) (by decide +kernel : u_at kl_133 1 = some (.invokevirtual 222, [157, 0, 11])) hW ha0 rfl rfl (Nat.le_of_ble_eq_true rfl) (e_157 (D := D) (by omega) hW ha0 hr1) (fun h' q => ?_)
  subst q
  refine en_if_eq (by decide +kernel : u_at kl_133 4 = some (.ifCond .eq 11, [15])) (fun b2 => ?_) (fun b2 => ?_)
  · replace hF := i_pos b2 hF
    refine en_segs [(15, .iconst (-1), [])] (by decide +kernel) (y := (16, [some (.ref a0)], [.int (-1)], h)) rfl ?_
    obtain rfl := Option.some.inj hF
    exact en_ret (by decide +kernel : u_at kl_133 16 = some (.ireturn, [0])) rfl (hQ _ hW)
  · replace hF := i_neg b2 hF
    refine en_segs [(7, .aload_n 0, []), (8, .iconst 1, [])] (by decide +kernel) (y := (9, [some (.ref a0)], [.int 1, .ref a0], h)) rfl ?_
    obtain ⟨r3, hr3, hF⟩ := ob_some hF
    refine en_vi (r := []) (by decide +kernel : u_at kl_133 9 = some (.invokevirtual 211, [165, 1, 11])) hW ha0 rfl rfl (Nat.le_of_ble_eq_true rfl) (e_165 (D := D) (by omega) hW ha0 hr3) (fun h' q => ?_)
    subst q
    refine en_if_ne (by decide +kernel : u_at kl_133 12 = some (.ifCond .ne 5, [17])) (fun b4 => ?_) (fun b4 => ?_)
    · replace hF := i_pos b4 hF
      refine en_segs [(15, .iconst (-1), [])] (by decide +kernel) (y := (16, [some (.ref a0)], [.int (-1)], h)) rfl ?_
      obtain rfl := Option.some.inj hF
      exact en_ret (by decide +kernel : u_at kl_133 16 = some (.ireturn, [0])) rfl (hQ _ hW)
    · replace hF := i_neg b4 hF
      refine en_segs [(17, .aload_n 0, [])] (by decide +kernel) (y := (18, [some (.ref a0)], [.ref a0], h)) rfl ?_
      have k5 : aK d (cR c11 7 a0) = (0, 10, 0) := wf_obj hW ha0 (by decide) rfl
      refine en_get (by decide +kernel : u_at kl_133 18 = some (.getfield 52, [11, 7])) hW ha0 (by decide) rfl ?_
      refine en_segs [(21, .iconst (-1), []), (22, .iconst (-1), []), (23, .iconst 0, [])] (by decide +kernel) (y := (24, [some (.ref a0)], [.int 0, .int (-1), .int (-1), .ref (cR c11 7 a0)], h)) rfl ?_
      obtain ⟨r6, hr6, hF⟩ := ob_some hF
      refine en_vv (r := []) (by decide +kernel : u_at kl_133 24 = some (.invokevirtual 218, [119, 3, 10])) hW k5 rfl rfl (Nat.le_of_ble_eq_true rfl) (e_119 (D := D) (by omega) hW k5 hr6) (fun h hW => ?_)
      have hW : HW (mkw c0 c1 c2 c3 c4 c5 c6 c7 r6.1 c9 r6.2 c11 c12 c13) d h := hW
      refine en_segs [(27, .aload_n 0, [])] (by decide +kernel) (y := (28, [some (.ref a0)], [.ref a0], h)) rfl ?_
      refine en_get (by decide +kernel : u_at kl_133 28 = some (.getfield 52, [11, 7])) hW ha0 (by decide) rfl ?_
      have k7 : aK d (cR r6.2 0 (cR c11 7 a0)) = (0, 8, 0) := wf_obj hW k5 (by decide) rfl
      refine en_get (by decide +kernel : u_at kl_133 31 = some (.getfield 62, [10, 0])) hW k5 (by decide) rfl ?_
      refine en_get (by decide +kernel : u_at kl_133 34 = some (.getfield 204, [8, 1])) hW k7 (by decide) rfl ?_
      obtain rfl := Option.some.inj hF
      exact en_ret (by decide +kernel : u_at kl_133 37 = some (.ireturn, [0])) rfl (hQ _ hW)
def F_134 (c1 : Cl) (c7 : Cl) (c8 : Cl) (c10 : Cl) (c11 : Cl) (a0 : Nat) (p1 : Int32) : Option (Int32 × Cl × Cl) :=
  F_158 c1 c8 c10 c11 a0 p1 >>= fun r1 =>
  if r1 = 0 then
  some (0, c7, c8)
  else
  F_83 c8 (cR c10 0 (cR c11 7 a0)) p1 >>= fun r5 =>
  if r5 = 0 then
  some (0, c7, c8)
  else
  F_90 c1 c8 (cR c10 0 (cR c11 7 a0)) p1 >>= fun r7 =>
  some (sI c7 1 (cR c11 12 a0) 0) >>= fun c7_9 =>
  some (1, c7_9, r7)
set_option maxRecDepth 100000 in
set_option maxHeartbeats 4000000 in
/-- HeadCounts.die -/
theorem e_134 {D : Nat} {c0 c1 c2 c3 c4 c5 c6 c7 c8 c9 c10 c11 c12 c13 : Cl} {d : Ad} {h : UH} {a0 : Nat} {p1 : Int32} {r : (Int32 × Cl × Cl)} (hD : 4 ≤ D) (hW : HW (mkw c0 c1 c2 c3 c4 c5 c6 c7 c8 c9 c10 c11 c12 c13) d h) (ha0 : aK d a0 = (0, 11, 0)) (hF : F_134 c1 c7 c8 c10 c11 a0 p1 = some r) : ∃ q, EX D 134 [.ref a0, .int p1] h q ∧ q.1 = some (.int r.1) ∧ HW (mkw c0 c1 c2 c3 c4 c5 c6 r.2.1 r.2.2 c9 c10 c11 c12 c13) d q.2 := by
  obtain ⟨D, rfl⟩ : ∃ E, D = E + 1 := ⟨D - 1, by omega⟩
  unfold F_134 at hF
  refine ex_in (kl := kl_134) (nL := 2) rfl (by decide +kernel) (Nat.le_of_ble_eq_true rfl) ?_
  obtain ⟨QQ, hQQ⟩ : ∃ QQ : UR → Prop, QQ = (fun q : UR => q.1 = some (.int r.1) ∧ HW (mkw c0 c1 c2 c3 c4 c5 c6 r.2.1 r.2.2 c9 c10 c11 c12 c13) d q.2) := ⟨_, rfl⟩
  rw [← hQQ]
  have hQ : ∀ h' : UH, HW (mkw c0 c1 c2 c3 c4 c5 c6 r.2.1 r.2.2 c9 c10 c11 c12 c13) d h' → QQ (some (.int r.1), h') := fun h' p => by rw [hQQ]; exact ⟨rfl, p⟩
  clear hQQ
  show Ends (EX D) (u_at kl_134) (0, [some (.ref a0), some (.int p1)], [], h) QQ
  refine en_segs [(0, .aload_n 0, []), (1, .iload_n 1, [])] (by decide +kernel) (y := (2, [some (.ref a0), some (.int p1)], [.int p1, .ref a0], h)) rfl ?_
  obtain ⟨r1, hr1, hF⟩ := ob_some hF
  refine en_vi (r := []) (by decide +kernel : u_at kl_134 2 = some (.invokevirtual 135, [158, 1, 11])) hW ha0 rfl rfl (Nat.le_of_ble_eq_true rfl) (e_158 (D := D) (by omega) hW ha0 hr1) (fun h' q => ?_)
  subst q
  refine en_if_eq (by decide +kernel : u_at kl_134 5 = some (.ifCond .eq 17, [22])) (fun b2 => ?_) (fun b2 => ?_)
  · replace hF := i_pos b2 hF
    refine en_segs [(22, .iconst 0, [])] (by decide +kernel) (y := (23, [some (.ref a0), some (.int p1)], [.int 0], h)) rfl ?_
    obtain rfl := Option.some.inj hF
    exact en_ret (by decide +kernel : u_at kl_134 23 = some (.ireturn, [1])) rfl (hQ _ hW)
  · replace hF := i_neg b2 hF
    refine en_segs [(8, .aload_n 0, [])] (by decide +kernel) (y := (9, [some (.ref a0), some (.int p1)], [.ref a0], h)) rfl ?_
    have k3 : aK d (cR c11 7 a0) = (0, 10, 0) := wf_obj hW ha0 (by decide) rfl
    refine en_get (by decide +kernel : u_at kl_134 9 = some (.getfield 52, [11, 7])) hW ha0 (by decide) rfl ?_
    have k4 : aK d (cR c10 0 (cR c11 7 a0)) = (0, 8, 0) := wf_obj hW k3 (by decide) rfl
    refine en_get (by decide +kernel : u_at kl_134 12 = some (.getfield 62, [10, 0])) hW k3 (by decide) rfl ?_
    refine en_segs [(15, .iload_n 1, [])] (by decide +kernel) (y := (16, [some (.ref a0), some (.int p1)], [.int p1, .ref (cR c10 0 (cR c11 7 a0))], h)) rfl ?_
    obtain ⟨r5, hr5, hF⟩ := ob_some hF
    refine en_vi (r := []) (by decide +kernel : u_at kl_134 16 = some (.invokevirtual 155, [83, 1, 8])) hW k4 rfl rfl (Nat.le_of_ble_eq_true rfl) (e_83 (D := D) (by omega) hW k4 hr5) (fun h' q => ?_)
    subst q
    refine en_if_ne (by decide +kernel : u_at kl_134 19 = some (.ifCond .ne 5, [24])) (fun b6 => ?_) (fun b6 => ?_)
    · replace hF := i_pos b6 hF
      refine en_segs [(22, .iconst 0, [])] (by decide +kernel) (y := (23, [some (.ref a0), some (.int p1)], [.int 0], h)) rfl ?_
      obtain rfl := Option.some.inj hF
      exact en_ret (by decide +kernel : u_at kl_134 23 = some (.ireturn, [1])) rfl (hQ _ hW)
    · replace hF := i_neg b6 hF
      refine en_segs [(24, .aload_n 0, [])] (by decide +kernel) (y := (25, [some (.ref a0), some (.int p1)], [.ref a0], h)) rfl ?_
      refine en_get (by decide +kernel : u_at kl_134 25 = some (.getfield 52, [11, 7])) hW ha0 (by decide) rfl ?_
      refine en_get (by decide +kernel : u_at kl_134 28 = some (.getfield 62, [10, 0])) hW k3 (by decide) rfl ?_
      refine en_segs [(31, .iload_n 1, [])] (by decide +kernel) (y := (32, [some (.ref a0), some (.int p1)], [.int p1, .ref (cR c10 0 (cR c11 7 a0))], h)) rfl ?_
      obtain ⟨r7, hr7, hF⟩ := ob_some hF
      refine en_vv (r := []) (by decide +kernel : u_at kl_134 32 = some (.invokevirtual 226, [90, 1, 8])) hW k4 rfl rfl (Nat.le_of_ble_eq_true rfl) (e_90 (D := D) (by omega) hW k4 hr7) (fun h hW => ?_)
      have hW : HW (mkw c0 c1 c2 c3 c4 c5 c6 c7 r7 c9 c10 c11 c12 c13) d h := hW
      refine en_segs [(35, .aload_n 0, [])] (by decide +kernel) (y := (36, [some (.ref a0), some (.int p1)], [.ref a0], h)) rfl ?_
      have k8 : aK d (cR c11 12 a0) = (0, 7, 0) := wf_obj hW ha0 (by decide) rfl
      refine en_get (by decide +kernel : u_at kl_134 36 = some (.getfield 86, [11, 12])) hW ha0 (by decide) rfl ?_
      refine en_segs [(39, .iconst 0, [])] (by decide +kernel) (y := (40, [some (.ref a0), some (.int p1)], [.int 0, .ref (cR c11 12 a0)], h)) rfl ?_
      obtain ⟨c7_9, hc7_9, hF⟩ := ob_some hF
      refine en_putI (by decide +kernel : u_at kl_134 40 = some (.putfield 122, [7, 1, 2])) hW k8 rfl (by decide) rfl (fun h hW => ?_)
      have hW : HW (mkw c0 c1 c2 c3 c4 c5 c6 c7_9 r7 c9 c10 c11 c12 c13) d h := by rw [← Option.some.inj hc7_9]; exact hW
      refine en_segs [(43, .iconst 1, [])] (by decide +kernel) (y := (44, [some (.ref a0), some (.int p1)], [.int 1], h)) rfl ?_
      obtain rfl := Option.some.inj hF
      exact en_ret (by decide +kernel : u_at kl_134 44 = some (.ireturn, [1])) rfl (hQ _ hW)
def F_135 (c1 : Cl) (c7 : Cl) (c8 : Cl) (c10 : Cl) (c11 : Cl) (a0 : Nat) (p1 : Int32) (p2 : Int32) : Option (Int32 × Cl × Cl) :=
  F_161 c1 c8 c10 c11 a0 p1 >>= fun r1 =>
  if r1 = 0 then
  some (0, c7, c8)
  else
  F_85 c8 (cR c10 0 (cR c11 7 a0)) p1 >>= fun r5 =>
  if r5 = p2 then
  some (0, c7, c8)
  else
  F_89 c1 c8 (cR c10 0 (cR c11 7 a0)) p1 >>= fun r7 =>
  some (sI c7 1 (cR c11 12 a0) 0) >>= fun c7_9 =>
  some (1, c7_9, r7)
set_option maxRecDepth 100000 in
set_option maxHeartbeats 4000000 in
/-- HeadCounts.open -/
theorem e_135 {D : Nat} {c0 c1 c2 c3 c4 c5 c6 c7 c8 c9 c10 c11 c12 c13 : Cl} {d : Ad} {h : UH} {a0 : Nat} {p1 : Int32} {p2 : Int32} {r : (Int32 × Cl × Cl)} (hD : 4 ≤ D) (hW : HW (mkw c0 c1 c2 c3 c4 c5 c6 c7 c8 c9 c10 c11 c12 c13) d h) (ha0 : aK d a0 = (0, 11, 0)) (hF : F_135 c1 c7 c8 c10 c11 a0 p1 p2 = some r) : ∃ q, EX D 135 [.ref a0, .int p1, .int p2] h q ∧ q.1 = some (.int r.1) ∧ HW (mkw c0 c1 c2 c3 c4 c5 c6 r.2.1 r.2.2 c9 c10 c11 c12 c13) d q.2 := by
  obtain ⟨D, rfl⟩ : ∃ E, D = E + 1 := ⟨D - 1, by omega⟩
  unfold F_135 at hF
  refine ex_in (kl := kl_135) (nL := 3) rfl (by decide +kernel) (Nat.le_of_ble_eq_true rfl) ?_
  obtain ⟨QQ, hQQ⟩ : ∃ QQ : UR → Prop, QQ = (fun q : UR => q.1 = some (.int r.1) ∧ HW (mkw c0 c1 c2 c3 c4 c5 c6 r.2.1 r.2.2 c9 c10 c11 c12 c13) d q.2) := ⟨_, rfl⟩
  rw [← hQQ]
  have hQ : ∀ h' : UH, HW (mkw c0 c1 c2 c3 c4 c5 c6 r.2.1 r.2.2 c9 c10 c11 c12 c13) d h' → QQ (some (.int r.1), h') := fun h' p => by rw [hQQ]; exact ⟨rfl, p⟩
  clear hQQ
  show Ends (EX D) (u_at kl_135) (0, [some (.ref a0), some (.int p1), some (.int p2)], [], h) QQ
  refine en_segs [(0, .aload_n 0, []), (1, .iload_n 1, [])] (by decide +kernel) (y := (2, [some (.ref a0), some (.int p1), some (.int p2)], [.int p1, .ref a0], h)) rfl ?_
  obtain ⟨r1, hr1, hF⟩ := ob_some hF
  refine en_vi (r := []) (by decide +kernel : u_at kl_135 2 = some (.invokevirtual 183, [161, 1, 11])) hW ha0 rfl rfl (Nat.le_of_ble_eq_true rfl) (e_161 (D := D) (by omega) hW ha0 hr1) (fun h' q => ?_)
  subst q
  refine en_if_eq (by decide +kernel : u_at kl_135 5 = some (.ifCond .eq 18, [23])) (fun b2 => ?_) (fun b2 => ?_)
  · replace hF := i_pos b2 hF
    refine en_segs [(23, .iconst 0, [])] (by decide +kernel) (y := (24, [some (.ref a0), some (.int p1), some (.int p2)], [.int 0], h)) rfl ?_
    obtain rfl := Option.some.inj hF
    exact en_ret (by decide +kernel : u_at kl_135 24 = some (.ireturn, [1])) rfl (hQ _ hW)
  · replace hF := i_neg b2 hF
    refine en_segs [(8, .aload_n 0, [])] (by decide +kernel) (y := (9, [some (.ref a0), some (.int p1), some (.int p2)], [.ref a0], h)) rfl ?_
    have k3 : aK d (cR c11 7 a0) = (0, 10, 0) := wf_obj hW ha0 (by decide) rfl
    refine en_get (by decide +kernel : u_at kl_135 9 = some (.getfield 52, [11, 7])) hW ha0 (by decide) rfl ?_
    have k4 : aK d (cR c10 0 (cR c11 7 a0)) = (0, 8, 0) := wf_obj hW k3 (by decide) rfl
    refine en_get (by decide +kernel : u_at kl_135 12 = some (.getfield 62, [10, 0])) hW k3 (by decide) rfl ?_
    refine en_segs [(15, .iload_n 1, [])] (by decide +kernel) (y := (16, [some (.ref a0), some (.int p1), some (.int p2)], [.int p1, .ref (cR c10 0 (cR c11 7 a0))], h)) rfl ?_
    obtain ⟨r5, hr5, hF⟩ := ob_some hF
    refine en_vi (r := []) (by decide +kernel : u_at kl_135 16 = some (.invokevirtual 192, [85, 1, 8])) hW k4 rfl rfl (Nat.le_of_ble_eq_true rfl) (e_85 (D := D) (by omega) hW k4 hr5) (fun h' q => ?_)
    subst q
    refine en_segs [(19, .iload_n 2, [])] (by decide +kernel) (y := (20, [some (.ref a0), some (.int p1), some (.int p2)], [.int p2, .int r5], h)) rfl ?_
    refine en_ic_ne (by decide +kernel : u_at kl_135 20 = some (.if_icmp .ne 5, [25])) (fun b6 => ?_) (fun b6 => ?_)
    · replace hF := i_pos b6 hF
      refine en_segs [(23, .iconst 0, [])] (by decide +kernel) (y := (24, [some (.ref a0), some (.int p1), some (.int p2)], [.int 0], h)) rfl ?_
      obtain rfl := Option.some.inj hF
      exact en_ret (by decide +kernel : u_at kl_135 24 = some (.ireturn, [1])) rfl (hQ _ hW)
    · replace hF := i_neg b6 hF
      refine en_segs [(25, .aload_n 0, [])] (by decide +kernel) (y := (26, [some (.ref a0), some (.int p1), some (.int p2)], [.ref a0], h)) rfl ?_
      refine en_get (by decide +kernel : u_at kl_135 26 = some (.getfield 52, [11, 7])) hW ha0 (by decide) rfl ?_
      refine en_get (by decide +kernel : u_at kl_135 29 = some (.getfield 62, [10, 0])) hW k3 (by decide) rfl ?_
      refine en_segs [(32, .iload_n 1, [])] (by decide +kernel) (y := (33, [some (.ref a0), some (.int p1), some (.int p2)], [.int p1, .ref (cR c10 0 (cR c11 7 a0))], h)) rfl ?_
      obtain ⟨r7, hr7, hF⟩ := ob_some hF
      refine en_vv (r := []) (by decide +kernel : u_at kl_135 33 = some (.invokevirtual 229, [89, 1, 8])) hW k4 rfl rfl (Nat.le_of_ble_eq_true rfl) (e_89 (D := D) (by omega) hW k4 hr7) (fun h hW => ?_)
      have hW : HW (mkw c0 c1 c2 c3 c4 c5 c6 c7 r7 c9 c10 c11 c12 c13) d h := hW
      refine en_segs [(36, .aload_n 0, [])] (by decide +kernel) (y := (37, [some (.ref a0), some (.int p1), some (.int p2)], [.ref a0], h)) rfl ?_
      have k8 : aK d (cR c11 12 a0) = (0, 7, 0) := wf_obj hW ha0 (by decide) rfl
      refine en_get (by decide +kernel : u_at kl_135 37 = some (.getfield 86, [11, 12])) hW ha0 (by decide) rfl ?_
      refine en_segs [(40, .iconst 0, [])] (by decide +kernel) (y := (41, [some (.ref a0), some (.int p1), some (.int p2)], [.int 0, .ref (cR c11 12 a0)], h)) rfl ?_
      obtain ⟨c7_9, hc7_9, hF⟩ := ob_some hF
      refine en_putI (by decide +kernel : u_at kl_135 41 = some (.putfield 122, [7, 1, 2])) hW k8 rfl (by decide) rfl (fun h hW => ?_)
      have hW : HW (mkw c0 c1 c2 c3 c4 c5 c6 c7_9 r7 c9 c10 c11 c12 c13) d h := by rw [← Option.some.inj hc7_9]; exact hW
      refine en_segs [(44, .iconst 1, [])] (by decide +kernel) (y := (45, [some (.ref a0), some (.int p1), some (.int p2)], [.int 1], h)) rfl ?_
      obtain rfl := Option.some.inj hF
      exact en_ret (by decide +kernel : u_at kl_135 45 = some (.ireturn, [1])) rfl (hQ _ hW)
def F_136 (c7 : Cl) (c8 : Cl) (c10 : Cl) (c11 : Cl) (a0 : Nat) : Option (Int32 × Cl × Cl × Cl) :=
  if (cI c10 3 (cR c11 7 a0)) = 0 then
  some ((-1), c7, c8, c10)
  else
  F_120 c8 c10 (cR c11 7 a0) >>= fun r3 =>
  some (sI c7 1 (cR c11 12 a0) 0) >>= fun c7_5 =>
  some (cI r3.2 3 (cR c11 7 a0), c7_5, r3.1, r3.2)
set_option maxRecDepth 100000 in
set_option maxHeartbeats 4000000 in
/-- HeadCounts.undo -/
theorem e_136 {D : Nat} {c0 c1 c2 c3 c4 c5 c6 c7 c8 c9 c10 c11 c12 c13 : Cl} {d : Ad} {h : UH} {a0 : Nat} {r : (Int32 × Cl × Cl × Cl)} (hD : 3 ≤ D) (hW : HW (mkw c0 c1 c2 c3 c4 c5 c6 c7 c8 c9 c10 c11 c12 c13) d h) (ha0 : aK d a0 = (0, 11, 0)) (hF : F_136 c7 c8 c10 c11 a0 = some r) : ∃ q, EX D 136 [.ref a0] h q ∧ q.1 = some (.int r.1) ∧ HW (mkw c0 c1 c2 c3 c4 c5 c6 r.2.1 r.2.2.1 c9 r.2.2.2 c11 c12 c13) d q.2 := by
  obtain ⟨D, rfl⟩ : ∃ E, D = E + 1 := ⟨D - 1, by omega⟩
  unfold F_136 at hF
  refine ex_in (kl := kl_136) (nL := 1) rfl (by decide +kernel) (Nat.le_of_ble_eq_true rfl) ?_
  obtain ⟨QQ, hQQ⟩ : ∃ QQ : UR → Prop, QQ = (fun q : UR => q.1 = some (.int r.1) ∧ HW (mkw c0 c1 c2 c3 c4 c5 c6 r.2.1 r.2.2.1 c9 r.2.2.2 c11 c12 c13) d q.2) := ⟨_, rfl⟩
  rw [← hQQ]
  have hQ : ∀ h' : UH, HW (mkw c0 c1 c2 c3 c4 c5 c6 r.2.1 r.2.2.1 c9 r.2.2.2 c11 c12 c13) d h' → QQ (some (.int r.1), h') := fun h' p => by rw [hQQ]; exact ⟨rfl, p⟩
  clear hQQ
  show Ends (EX D) (u_at kl_136) (0, [some (.ref a0)], [], h) QQ
  refine en_segs [(0, .aload_n 0, [])] (by decide +kernel) (y := (1, [some (.ref a0)], [.ref a0], h)) rfl ?_
  have k1 : aK d (cR c11 7 a0) = (0, 10, 0) := wf_obj hW ha0 (by decide) rfl
  refine en_get (by decide +kernel : u_at kl_136 1 = some (.getfield 52, [11, 7])) hW ha0 (by decide) rfl ?_
  refine en_get (by decide +kernel : u_at kl_136 4 = some (.getfield 232, [10, 3])) hW k1 (by decide) rfl ?_
  refine en_if_ne (by decide +kernel : u_at kl_136 7 = some (.ifCond .ne 5, [12])) (fun b2 => ?_) (fun b2 => ?_)
  · replace hF := i_pos b2 hF
    refine en_segs [(10, .iconst (-1), [])] (by decide +kernel) (y := (11, [some (.ref a0)], [.int (-1)], h)) rfl ?_
    obtain rfl := Option.some.inj hF
    exact en_ret (by decide +kernel : u_at kl_136 11 = some (.ireturn, [0])) rfl (hQ _ hW)
  · replace hF := i_neg b2 hF
    refine en_segs [(12, .aload_n 0, [])] (by decide +kernel) (y := (13, [some (.ref a0)], [.ref a0], h)) rfl ?_
    refine en_get (by decide +kernel : u_at kl_136 13 = some (.getfield 52, [11, 7])) hW ha0 (by decide) rfl ?_
    obtain ⟨r3, hr3, hF⟩ := ob_some hF
    refine en_vv (r := []) (by decide +kernel : u_at kl_136 16 = some (.invokevirtual 235, [120, 0, 10])) hW k1 rfl rfl (Nat.le_of_ble_eq_true rfl) (e_120 (D := D) (by omega) hW k1 hr3) (fun h hW => ?_)
    have hW : HW (mkw c0 c1 c2 c3 c4 c5 c6 c7 r3.1 c9 r3.2 c11 c12 c13) d h := hW
    refine en_segs [(19, .aload_n 0, [])] (by decide +kernel) (y := (20, [some (.ref a0)], [.ref a0], h)) rfl ?_
    have k4 : aK d (cR c11 12 a0) = (0, 7, 0) := wf_obj hW ha0 (by decide) rfl
    refine en_get (by decide +kernel : u_at kl_136 20 = some (.getfield 86, [11, 12])) hW ha0 (by decide) rfl ?_
    refine en_segs [(23, .iconst 0, [])] (by decide +kernel) (y := (24, [some (.ref a0)], [.int 0, .ref (cR c11 12 a0)], h)) rfl ?_
    obtain ⟨c7_5, hc7_5, hF⟩ := ob_some hF
    refine en_putI (by decide +kernel : u_at kl_136 24 = some (.putfield 122, [7, 1, 2])) hW k4 rfl (by decide) rfl (fun h hW => ?_)
    have hW : HW (mkw c0 c1 c2 c3 c4 c5 c6 c7_5 r3.1 c9 r3.2 c11 c12 c13) d h := by rw [← Option.some.inj hc7_5]; exact hW
    refine en_segs [(27, .aload_n 0, [])] (by decide +kernel) (y := (28, [some (.ref a0)], [.ref a0], h)) rfl ?_
    refine en_get (by decide +kernel : u_at kl_136 28 = some (.getfield 52, [11, 7])) hW ha0 (by decide) rfl ?_
    refine en_get (by decide +kernel : u_at kl_136 31 = some (.getfield 232, [10, 3])) hW k1 (by decide) rfl ?_
    obtain rfl := Option.some.inj hF
    exact en_ret (by decide +kernel : u_at kl_136 34 = some (.ireturn, [0])) rfl (hQ _ hW)
def F_163 (c11 : Cl) (a0 : Nat) (p1 : Int32) : Option Int32 :=
  ((if p1 < 0 then
  some 0
  else
  if (cI c11 6 a0) ≤ p1 then
  some 0
  else
  ldq (cQ c11 5 a0) 6 p1 >>= fun v6 =>
  if v6 = none then
  some 0
  else
  some 1) : Option (Int32)) >>= fun (t1 : Int32) =>
  zb t1 >>= fun z3 => some z3
set_option maxRecDepth 100000 in
set_option maxHeartbeats 4000000 in
/-- HeadCounts.isRule -/
theorem e_163 {D : Nat} {c0 c1 c2 c3 c4 c5 c6 c7 c8 c9 c10 c11 c12 c13 : Cl} {d : Ad} {h : UH} {a0 : Nat} {p1 : Int32} {r : Int32} (hD : 1 ≤ D) (hW : HW (mkw c0 c1 c2 c3 c4 c5 c6 c7 c8 c9 c10 c11 c12 c13) d h) (ha0 : aK d a0 = (0, 11, 0)) (hF : F_163 c11 a0 p1 = some r) : ∃ q, EX D 163 [.ref a0, .int p1] h q ∧ q.1 = some (.int r) ∧ h = q.2 := by
  obtain ⟨D, rfl⟩ : ∃ E, D = E + 1 := ⟨D - 1, by omega⟩
  unfold F_163 at hF
  refine ex_in (kl := kl_163) (nL := 2) rfl (by decide +kernel) (Nat.le_of_ble_eq_true rfl) ?_
  obtain ⟨QQ, hQQ⟩ : ∃ QQ : UR → Prop, QQ = (fun q : UR => q.1 = some (.int r) ∧ h = q.2) := ⟨_, rfl⟩
  rw [← hQQ]
  have hQ : QQ (some (.int r), h) := by rw [hQQ]; exact ⟨rfl, rfl⟩
  clear hQQ
  show Ends (EX D) (u_at kl_163) (0, [some (.ref a0), some (.int p1)], [], h) QQ
  refine en_segs [(0, .iload_n 1, [])] (by decide +kernel) (y := (1, [some (.ref a0), some (.int p1)], [.int p1], h)) rfl ?_
  obtain ⟨t1, hX, hK⟩ := ob_some hF
  have j2 : Ends (EX D) (u_at kl_163) (26, [some (.ref a0), some (.int p1)], [.int t1], h) QQ := by
    have hF := hK
    obtain ⟨z3, hz3, hF⟩ := ob_some hF
    obtain rfl := Option.some.inj hF
    exact en_retZ (by decide +kernel : u_at kl_163 26 = some (.ireturn, [1])) hz3 (hQ)
  have hF := hX
  refine en_if_lt (by decide +kernel : u_at kl_163 1 = some (.ifCond .lt 24, [25])) (fun b4 => ?_) (fun b4 => ?_)
  · replace hF := i_pos b4 hF
    refine en_segs [(25, .iconst 0, [])] (by decide +kernel) (y := (26, [some (.ref a0), some (.int p1)], [.int 0], h)) rfl ?_
    obtain rfl := Option.some.inj hF
    exact j2
  · replace hF := i_neg b4 hF
    refine en_segs [(4, .iload_n 1, []), (5, .aload_n 0, [])] (by decide +kernel) (y := (6, [some (.ref a0), some (.int p1)], [.ref a0, .int p1], h)) rfl ?_
    refine en_get (by decide +kernel : u_at kl_163 6 = some (.getfield 129, [11, 6])) hW ha0 (by decide) rfl ?_
    refine en_ic_ge (by decide +kernel : u_at kl_163 9 = some (.if_icmp .ge 16, [25])) (fun b5 => ?_) (fun b5 => ?_)
    · replace hF := i_pos b5 hF
      refine en_segs [(25, .iconst 0, [])] (by decide +kernel) (y := (26, [some (.ref a0), some (.int p1)], [.int 0], h)) rfl ?_
      obtain rfl := Option.some.inj hF
      exact j2
    · replace hF := i_neg b5 hF
      refine en_segs [(12, .aload_n 0, [])] (by decide +kernel) (y := (13, [some (.ref a0), some (.int p1)], [.ref a0], h)) rfl ?_
      refine en_get (by decide +kernel : u_at kl_163 13 = some (.getfield 40, [11, 5])) hW ha0 (by decide) rfl ?_
      refine en_segs [(16, .iload_n 1, [])] (by decide +kernel) (y := (17, [some (.ref a0), some (.int p1)], [.int p1, .ref (aP d 11 5 a0)], h)) rfl ?_
      obtain ⟨v6, hv6, hF⟩ := ob_some hF
      have ev6 : ∀ q, v6 = some q → aK d q = (0, 4, 0) := fun q e => wf_elem (t := 4) hW ha0 (by decide) rfl (by decide) ((ldq_some hv6).2.trans e)
      refine en_aald (by decide +kernel : u_at kl_163 17 = some (.aaload, [])) hW ha0 rfl (by decide) (by decide) hv6 ?_
      refine en_nl (by decide +kernel : u_at kl_163 18 = some (.ifnull 7, [25])) (fun b7 => ?_) (fun b7 => ?_)
      · replace hF := i_pos b7 hF
        refine en_segs [(25, .iconst 0, [])] (by decide +kernel) (y := (26, [some (.ref a0), some (.int p1)], [.int 0], h)) rfl ?_
        obtain rfl := Option.some.inj hF
        exact j2
      · replace hF := i_neg b7 hF
        refine en_segs [(21, .iconst 1, []), (22, .goto 4, [26])] (by decide +kernel) (y := (26, [some (.ref a0), some (.int p1)], [.int 1], h)) rfl ?_
        obtain rfl := Option.some.inj hF
        exact j2
def G_166 (c1 : Cl) (c8 : Cl) (c10 : Cl) (c11 : Cl) (c13 : Cl) (d : Ad) (a0 : Nat) (a1 : Nat) (lab : Nat) (xs : List Int32) (ys : List Int64) (zs : List Nat) (c4 : Cl) : Option (Cl × Cl × Cl) := match lab, xs, ys, zs with
  | 0, [x2], [], [] =>
    if (cI c1 2 (cR c8 0 (cR c10 0 (cR c11 7 a0)))) ≤ x2 then
    F_119 c1 c8 c10 (cR c11 7 a0) (-1) (-1) 0 >>= fun r5 =>
    some (c4, r5.1, r5.2)
    else
    F_83 c8 (cR c10 0 (cR c11 7 a0)) x2 >>= fun r6 =>
    if r6 = 0 then
    G_166 c1 c8 c10 c11 c13 d a0 a1 0 [x2 + 1] [] [] c4
    else
    F_37 c1 c4 c8 c13 d a1 (cR c10 0 (cR c11 7 a0)) x2 >>= fun r8 =>
    if r8.1 = (-1) then
    G_166 c1 c8 c10 c11 c13 d a0 a1 0 [x2 + 1] [] [] r8.2
    else
    F_119 c1 c8 c10 (cR c11 7 a0) x2 r8.1 0 >>= fun r10 =>
    some (r8.2, r10.1, r10.2)
  | _, _, _, _ => none
partial_fixpoint
set_option maxRecDepth 100000 in
set_option maxHeartbeats 4000000 in
theorem g_166 {D : Nat} (hD : 7 ≤ D + 1) {c0 c1 c2 c3 c5 c6 c7 c8 c9 c10 c11 c12 c13 : Cl} {d : Ad} {a0 : Nat} {a1 : Nat} (ha0 : aK d a0 = (0, 11, 0)) (ha1 : aK d a1 = (0, 4, 0)) : ∀ (lab : Nat) (xs : List Int32) (ys : List Int64) (zs : List Nat) (c4 : Cl) (r : (Cl × Cl × Cl)), G_166 c1 c8 c10 c11 c13 d a0 a1 lab xs ys zs c4 = some r →
    (∀ (x2 : Int32), lab = 0 → xs = [x2] → ys = [] → zs = [] → ∀ h : UH, HW (mkw c0 c1 c2 c3 c4 c5 c6 c7 c8 c9 c10 c11 c12 c13) d h → ∀ QQ : UR → Prop, (∀ h' : UH, HW (mkw c0 c1 c2 c3 r.1 c5 c6 c7 r.2.1 c9 r.2.2 c11 c12 c13) d h' → QQ (none, h')) → Ends (EX D) (u_at kl_166) (2, [some (.ref a0), some (.ref a1), some (.int x2), none], [], h) QQ) := by
  refine G_166.partial_correctness _ _ _ _ _ _ _ _ (motive := fun lab xs ys zs c4 r =>
    (∀ (x2 : Int32), lab = 0 → xs = [x2] → ys = [] → zs = [] → ∀ h : UH, HW (mkw c0 c1 c2 c3 c4 c5 c6 c7 c8 c9 c10 c11 c12 c13) d h → ∀ QQ : UR → Prop, (∀ h' : UH, HW (mkw c0 c1 c2 c3 r.1 c5 c6 c7 r.2.1 c9 r.2.2 c11 c12 c13) d h' → QQ (none, h')) → Ends (EX D) (u_at kl_166) (2, [some (.ref a0), some (.ref a1), some (.int x2), none], [], h) QQ)) ?_
  intro G ih lab xs ys zs c4 r hF
  · intro x2 e1 e2 e3 e4 h hW QQ hQ
    subst e1 e2 e3 e4
    refine en_segs [(2, .iload_n 2, []), (3, .aload_n 0, [])] (by decide +kernel) (y := (4, [some (.ref a0), some (.ref a1), some (.int x2), none], [.ref a0, .int x2], h)) rfl ?_
    have k1 : aK d (cR c11 7 a0) = (0, 10, 0) := wf_obj hW ha0 (by decide) rfl
    refine en_get (by decide +kernel : u_at kl_166 4 = some (.getfield 52, [11, 7])) hW ha0 (by decide) rfl ?_
    have k2 : aK d (cR c10 0 (cR c11 7 a0)) = (0, 8, 0) := wf_obj hW k1 (by decide) rfl
    refine en_get (by decide +kernel : u_at kl_166 7 = some (.getfield 62, [10, 0])) hW k1 (by decide) rfl ?_
    have k3 : aK d (cR c8 0 (cR c10 0 (cR c11 7 a0))) = (0, 1, 0) := wf_obj hW k2 (by decide) rfl
    refine en_get (by decide +kernel : u_at kl_166 10 = some (.getfield 66, [8, 0])) hW k2 (by decide) rfl ?_
    refine en_get (by decide +kernel : u_at kl_166 13 = some (.getfield 126, [1, 2])) hW k3 (by decide) rfl ?_
    refine en_ic_ge (by decide +kernel : u_at kl_166 16 = some (.if_icmp .ge 52, [68])) (fun b4 => ?_) (fun b4 => ?_)
    · replace hF := i_pos b4 hF
      refine en_segs [(68, .aload_n 0, [])] (by decide +kernel) (y := (69, [some (.ref a0), some (.ref a1), some (.int x2), none], [.ref a0], h)) rfl ?_
      refine en_get (by decide +kernel : u_at kl_166 69 = some (.getfield 52, [11, 7])) hW ha0 (by decide) rfl ?_
      refine en_segs [(72, .iconst (-1), []), (73, .iconst (-1), []), (74, .iconst 0, [])] (by decide +kernel) (y := (75, [some (.ref a0), some (.ref a1), some (.int x2), none], [.int 0, .int (-1), .int (-1), .ref (cR c11 7 a0)], h)) rfl ?_
      obtain ⟨r5, hr5, hF⟩ := ob_some hF
      refine en_vv (r := []) (by decide +kernel : u_at kl_166 75 = some (.invokevirtual 218, [119, 3, 10])) hW k1 rfl rfl (Nat.le_of_ble_eq_true rfl) (e_119 (D := D) (by omega) hW k1 hr5) (fun h hW => ?_)
      have hW : HW (mkw c0 c1 c2 c3 c4 c5 c6 c7 r5.1 c9 r5.2 c11 c12 c13) d h := hW
      obtain rfl := Option.some.inj hF
      exact en_ret (by decide +kernel : u_at kl_166 78 = some (.return_, [])) rfl (hQ _ hW)
    · replace hF := i_neg b4 hF
      refine en_segs [(19, .aload_n 0, [])] (by decide +kernel) (y := (20, [some (.ref a0), some (.ref a1), some (.int x2), none], [.ref a0], h)) rfl ?_
      refine en_get (by decide +kernel : u_at kl_166 20 = some (.getfield 52, [11, 7])) hW ha0 (by decide) rfl ?_
      refine en_get (by decide +kernel : u_at kl_166 23 = some (.getfield 62, [10, 0])) hW k1 (by decide) rfl ?_
      refine en_segs [(26, .iload_n 2, [])] (by decide +kernel) (y := (27, [some (.ref a0), some (.ref a1), some (.int x2), none], [.int x2, .ref (cR c10 0 (cR c11 7 a0))], h)) rfl ?_
      obtain ⟨r6, hr6, hF⟩ := ob_some hF
      refine en_vi (r := []) (by decide +kernel : u_at kl_166 27 = some (.invokevirtual 155, [83, 1, 8])) hW k2 rfl rfl (Nat.le_of_ble_eq_true rfl) (e_83 (D := D) (by omega) hW k2 hr6) (fun h' q => ?_)
      subst q
      refine en_if_eq (by decide +kernel : u_at kl_166 30 = some (.ifCond .eq 32, [62])) (fun b7 => ?_) (fun b7 => ?_)
      · replace hF := i_pos b7 hF
        refine en_segs [(62, .iinc 2 1, []), (65, .goto (-63), [2])] (by decide +kernel) (y := (2, [some (.ref a0), some (.ref a1), some (.int (x2 + 1)), none], [], h)) rfl ?_
        exact (ih _ _ _ _ _ _ hF) _ rfl rfl rfl rfl  _ hW _ hQ
      · replace hF := i_neg b7 hF
        refine en_segs [(33, .aload_n 1, []), (34, .aload_n 0, [])] (by decide +kernel) (y := (35, [some (.ref a0), some (.ref a1), some (.int x2), none], [.ref a0, .ref a1], h)) rfl ?_
        refine en_get (by decide +kernel : u_at kl_166 35 = some (.getfield 52, [11, 7])) hW ha0 (by decide) rfl ?_
        refine en_get (by decide +kernel : u_at kl_166 38 = some (.getfield 62, [10, 0])) hW k1 (by decide) rfl ?_
        refine en_segs [(41, .iload_n 2, [])] (by decide +kernel) (y := (42, [some (.ref a0), some (.ref a1), some (.int x2), none], [.int x2, .ref (cR c10 0 (cR c11 7 a0)), .ref a1], h)) rfl ?_
        obtain ⟨r8, hr8, hF⟩ := ob_some hF
        refine en_vi (r := []) (by decide +kernel : u_at kl_166 42 = some (.invokevirtual 248, [37, 2, 4])) hW ha1 rfl rfl (Nat.le_of_ble_eq_true rfl) (e_37 (D := D) (by omega) hW ha1 k2 hr8) (fun h hW => ?_)
        have hW : HW (mkw c0 c1 c2 c3 r8.2 c5 c6 c7 c8 c9 c10 c11 c12 c13) d h := hW
        refine en_segs [(45, .istore_n 3, []), (46, .iload_n 3, []), (47, .iconst (-1), [])] (by decide +kernel) (y := (48, [some (.ref a0), some (.ref a1), some (.int x2), some (.int r8.1)], [.int (-1), .int r8.1], h)) rfl ?_
        refine en_ic_eq (by decide +kernel : u_at kl_166 48 = some (.if_icmp .eq 14, [62])) (fun b9 => ?_) (fun b9 => ?_)
        · replace hF := i_pos b9 hF
          refine en_segs [(62, .iinc 2 1, []), (65, .goto (-63), [2])] (by decide +kernel) (y := (2, [some (.ref a0), some (.ref a1), some (.int (x2 + 1)), some (.int r8.1)], [], h)) rfl ?_
          refine en_fg (fg_k (fg_k (fg_k (fg_d fg_0)))) ?_
          exact (ih _ _ _ _ _ _ hF) _ rfl rfl rfl rfl  _ hW _ hQ
        · replace hF := i_neg b9 hF
          refine en_segs [(51, .aload_n 0, [])] (by decide +kernel) (y := (52, [some (.ref a0), some (.ref a1), some (.int x2), some (.int r8.1)], [.ref a0], h)) rfl ?_
          refine en_get (by decide +kernel : u_at kl_166 52 = some (.getfield 52, [11, 7])) hW ha0 (by decide) rfl ?_
          refine en_segs [(55, .iload_n 2, []), (56, .iload_n 3, []), (57, .iconst 0, [])] (by decide +kernel) (y := (58, [some (.ref a0), some (.ref a1), some (.int x2), some (.int r8.1)], [.int 0, .int r8.1, .int x2, .ref (cR c11 7 a0)], h)) rfl ?_
          obtain ⟨r10, hr10, hF⟩ := ob_some hF
          refine en_vv (r := []) (by decide +kernel : u_at kl_166 58 = some (.invokevirtual 218, [119, 3, 10])) hW k1 rfl rfl (Nat.le_of_ble_eq_true rfl) (e_119 (D := D) (by omega) hW k1 hr10) (fun h hW => ?_)
          have hW : HW (mkw c0 c1 c2 c3 r8.2 c5 c6 c7 r10.1 c9 r10.2 c11 c12 c13) d h := hW
          obtain rfl := Option.some.inj hF
          exact en_ret (by decide +kernel : u_at kl_166 61 = some (.return_, [])) rfl (hQ _ hW)
def F_166 (c1 : Cl) (c4 : Cl) (c8 : Cl) (c10 : Cl) (c11 : Cl) (c13 : Cl) (d : Ad) (a0 : Nat) (a1 : Nat) : Option (Cl × Cl × Cl) :=
  G_166 c1 c8 c10 c11 c13 d a0 a1 0 [0] [] [] c4
set_option maxRecDepth 100000 in
set_option maxHeartbeats 4000000 in
/-- HeadCounts.passByRule -/
theorem e_166 {D : Nat} {c0 c1 c2 c3 c4 c5 c6 c7 c8 c9 c10 c11 c12 c13 : Cl} {d : Ad} {h : UH} {a0 : Nat} {a1 : Nat} {r : (Cl × Cl × Cl)} (hD : 7 ≤ D) (hW : HW (mkw c0 c1 c2 c3 c4 c5 c6 c7 c8 c9 c10 c11 c12 c13) d h) (ha0 : aK d a0 = (0, 11, 0)) (ha1 : aK d a1 = (0, 4, 0)) (hF : F_166 c1 c4 c8 c10 c11 c13 d a0 a1 = some r) : ∃ q, EX D 166 [.ref a0, .ref a1] h q ∧ q.1 = none ∧ HW (mkw c0 c1 c2 c3 r.1 c5 c6 c7 r.2.1 c9 r.2.2 c11 c12 c13) d q.2 := by
  obtain ⟨D, rfl⟩ : ∃ E, D = E + 1 := ⟨D - 1, by omega⟩
  unfold F_166 at hF
  refine ex_in (kl := kl_166) (nL := 4) rfl (by decide +kernel) (Nat.le_of_ble_eq_true rfl) ?_
  obtain ⟨QQ, hQQ⟩ : ∃ QQ : UR → Prop, QQ = (fun q : UR => q.1 = none ∧ HW (mkw c0 c1 c2 c3 r.1 c5 c6 c7 r.2.1 c9 r.2.2 c11 c12 c13) d q.2) := ⟨_, rfl⟩
  rw [← hQQ]
  have hQ : ∀ h' : UH, HW (mkw c0 c1 c2 c3 r.1 c5 c6 c7 r.2.1 c9 r.2.2 c11 c12 c13) d h' → QQ (none, h') := fun h' p => by rw [hQQ]; exact ⟨rfl, p⟩
  clear hQQ
  show Ends (EX D) (u_at kl_166) (0, [some (.ref a0), some (.ref a1), none, none], [], h) QQ
  refine en_segs [(0, .iconst 0, []), (1, .istore_n 2, [])] (by decide +kernel) (y := (2, [some (.ref a0), some (.ref a1), some (.int 0), none], [], h)) rfl ?_
  exact (g_166 (D := D) hD ha0 ha1 _ _ _ _ _ _ hF) _ rfl rfl rfl rfl  _ hW _ hQ
def G_137 (c1 : Cl) (c7 : Cl) (c11 : Cl) (c13 : Cl) (d : Ad) (a0 : Nat) (lab : Nat) (xs : List Int32) (ys : List Int64) (zs : List Nat) (c4 : Cl) (c8 : Cl) (c10 : Cl) : Option (Int32 × Cl × Cl × Cl × Cl) := match lab, xs, ys, zs with
  | 0, [x1, x2, x3], [], [] =>
    if x2 ≤ x3 then
    some (sI c7 1 (cR c11 12 a0) 0) >>= fun c7_11 =>
    some (cI c8 1 (cR c10 0 (cR c11 7 a0)), c4, c7_11, c8, c10)
    else
    ldq (cQ c11 5 a0) 6 x1 >>= fun v14 =>
    v14 >>= fun o15 =>
    F_166 c1 c4 c8 c10 c11 c13 d a0 o15 >>= fun r17 =>
    G_137 c1 c7 c11 c13 d a0 0 [x1, x2, x3 + 1] [] [] r17.1 r17.2.1 r17.2.2
  | _, _, _, _ => none
partial_fixpoint
set_option maxRecDepth 100000 in
set_option maxHeartbeats 4000000 in
theorem g_137 {D : Nat} (hD : 8 ≤ D + 1) {c0 c1 c2 c3 c5 c6 c7 c9 c11 c12 c13 : Cl} {d : Ad} {a0 : Nat} (ha0 : aK d a0 = (0, 11, 0)) : ∀ (lab : Nat) (xs : List Int32) (ys : List Int64) (zs : List Nat) (c4 : Cl) (c8 : Cl) (c10 : Cl) (r : (Int32 × Cl × Cl × Cl × Cl)), G_137 c1 c7 c11 c13 d a0 lab xs ys zs c4 c8 c10 = some r →
    (∀ (x1 : Int32) (x2 : Int32) (x3 : Int32), lab = 0 → xs = [x1, x2, x3] → ys = [] → zs = [] → ∀ h : UH, HW (mkw c0 c1 c2 c3 c4 c5 c6 c7 c8 c9 c10 c11 c12 c13) d h → ∀ QQ : UR → Prop, (∀ h' : UH, HW (mkw c0 c1 c2 c3 r.2.1 c5 c6 r.2.2.1 r.2.2.2.1 c9 r.2.2.2.2 c11 c12 c13) d h' → QQ (some (.int r.1), h')) → Ends (EX D) (u_at kl_137) (38, [some (.ref a0), some (.int x1), some (.int x2), some (.int x3)], [], h) QQ) := by
  refine G_137.partial_correctness _ _ _ _ _ _ (motive := fun lab xs ys zs c4 c8 c10 r =>
    (∀ (x1 : Int32) (x2 : Int32) (x3 : Int32), lab = 0 → xs = [x1, x2, x3] → ys = [] → zs = [] → ∀ h : UH, HW (mkw c0 c1 c2 c3 c4 c5 c6 c7 c8 c9 c10 c11 c12 c13) d h → ∀ QQ : UR → Prop, (∀ h' : UH, HW (mkw c0 c1 c2 c3 r.2.1 c5 c6 r.2.2.1 r.2.2.2.1 c9 r.2.2.2.2 c11 c12 c13) d h' → QQ (some (.int r.1), h')) → Ends (EX D) (u_at kl_137) (38, [some (.ref a0), some (.int x1), some (.int x2), some (.int x3)], [], h) QQ)) ?_
  intro G ih lab xs ys zs c4 c8 c10 r hF
  · intro x1 x2 x3 e1 e2 e3 e4 h hW QQ hQ
    subst e1 e2 e3 e4
    refine en_segs [(38, .iload_n 3, []), (39, .iload_n 2, [])] (by decide +kernel) (y := (40, [some (.ref a0), some (.int x1), some (.int x2), some (.int x3)], [.int x2, .int x3], h)) rfl ?_
    refine en_ic_ge (by decide +kernel : u_at kl_137 40 = some (.if_icmp .ge 19, [59])) (fun b9 => ?_) (fun b9 => ?_)
    · replace hF := i_pos b9 hF
      refine en_segs [(59, .aload_n 0, [])] (by decide +kernel) (y := (60, [some (.ref a0), some (.int x1), some (.int x2), some (.int x3)], [.ref a0], h)) rfl ?_
      have k10 : aK d (cR c11 12 a0) = (0, 7, 0) := wf_obj hW ha0 (by decide) rfl
      refine en_get (by decide +kernel : u_at kl_137 60 = some (.getfield 86, [11, 12])) hW ha0 (by decide) rfl ?_
      refine en_segs [(63, .iconst 0, [])] (by decide +kernel) (y := (64, [some (.ref a0), some (.int x1), some (.int x2), some (.int x3)], [.int 0, .ref (cR c11 12 a0)], h)) rfl ?_
      obtain ⟨c7_11, hc7_11, hF⟩ := ob_some hF
      refine en_putI (by decide +kernel : u_at kl_137 64 = some (.putfield 122, [7, 1, 2])) hW k10 rfl (by decide) rfl (fun h hW => ?_)
      have hW : HW (mkw c0 c1 c2 c3 c4 c5 c6 c7_11 c8 c9 c10 c11 c12 c13) d h := by rw [← Option.some.inj hc7_11]; exact hW
      refine en_segs [(67, .aload_n 0, [])] (by decide +kernel) (y := (68, [some (.ref a0), some (.int x1), some (.int x2), some (.int x3)], [.ref a0], h)) rfl ?_
      have k12 : aK d (cR c11 7 a0) = (0, 10, 0) := wf_obj hW ha0 (by decide) rfl
      refine en_get (by decide +kernel : u_at kl_137 68 = some (.getfield 52, [11, 7])) hW ha0 (by decide) rfl ?_
      have k13 : aK d (cR c10 0 (cR c11 7 a0)) = (0, 8, 0) := wf_obj hW k12 (by decide) rfl
      refine en_get (by decide +kernel : u_at kl_137 71 = some (.getfield 62, [10, 0])) hW k12 (by decide) rfl ?_
      refine en_get (by decide +kernel : u_at kl_137 74 = some (.getfield 204, [8, 1])) hW k13 (by decide) rfl ?_
      obtain rfl := Option.some.inj hF
      exact en_ret (by decide +kernel : u_at kl_137 77 = some (.ireturn, [0])) rfl (hQ _ hW)
    · replace hF := i_neg b9 hF
      refine en_segs [(43, .aload_n 0, []), (44, .aload_n 0, [])] (by decide +kernel) (y := (45, [some (.ref a0), some (.int x1), some (.int x2), some (.int x3)], [.ref a0, .ref a0], h)) rfl ?_
      refine en_get (by decide +kernel : u_at kl_137 45 = some (.getfield 40, [11, 5])) hW ha0 (by decide) rfl ?_
      refine en_segs [(48, .iload_n 1, [])] (by decide +kernel) (y := (49, [some (.ref a0), some (.int x1), some (.int x2), some (.int x3)], [.int x1, .ref (aP d 11 5 a0), .ref a0], h)) rfl ?_
      obtain ⟨v14, hv14, hF⟩ := ob_some hF
      have ev14 : ∀ q, v14 = some q → aK d q = (0, 4, 0) := fun q e => wf_elem (t := 4) hW ha0 (by decide) rfl (by decide) ((ldq_some hv14).2.trans e)
      refine en_aald (by decide +kernel : u_at kl_137 49 = some (.aaload, [])) hW ha0 rfl (by decide) (by decide) hv14 ?_
      obtain ⟨o15, ho15, hF⟩ := ob_some hF
      have k16 : aK d o15 = (0, 4, 0) := ev14 o15 ho15
      rw [ho15]
      obtain ⟨r17, hr17, hF⟩ := ob_some hF
      refine en_vv (r := []) (by decide +kernel : u_at kl_137 50 = some (.invokevirtual 241, [166, 1, 11])) hW ha0 rfl rfl (Nat.le_of_ble_eq_true rfl) (e_166 (D := D) (by omega) hW ha0 k16 hr17) (fun h hW => ?_)
      have hW : HW (mkw c0 c1 c2 c3 r17.1 c5 c6 c7 r17.2.1 c9 r17.2.2 c11 c12 c13) d h := hW
      refine en_segs [(53, .iinc 3 1, []), (56, .goto (-18), [38])] (by decide +kernel) (y := (38, [some (.ref a0), some (.int x1), some (.int x2), some (.int (x3 + 1))], [], h)) rfl ?_
      exact (ih _ _ _ _ _ _ _ _ hF) _ _ _ rfl rfl rfl rfl  _ hW _ hQ
def F_137 (c1 : Cl) (c4 : Cl) (c7 : Cl) (c8 : Cl) (c10 : Cl) (c11 : Cl) (c13 : Cl) (d : Ad) (a0 : Nat) (p1 : Int32) (p2 : Int32) : Option (Int32 × Cl × Cl × Cl × Cl) :=
  F_157 c1 c8 c10 c11 a0 >>= fun r1 =>
  if r1 = 0 then
  some ((-1), c4, c7, c8, c10)
  else
  F_163 c11 a0 p1 >>= fun r3 =>
  if r3 = 0 then
  some ((-1), c4, c7, c8, c10)
  else
  if p2 < 1 then
  some ((-1), c4, c7, c8, c10)
  else
  if 60 < p2 then
  some ((-1), c4, c7, c8, c10)
  else
  F_165 c8 c10 c11 a0 p2 >>= fun r7 =>
  if r7 = 0 then
  some ((-1), c4, c7, c8, c10)
  else
  G_137 c1 c7 c11 c13 d a0 0 [p1, p2, 0] [] [] c4 c8 c10
set_option maxRecDepth 100000 in
set_option maxHeartbeats 4000000 in
/-- HeadCounts.run -/
theorem e_137 {D : Nat} {c0 c1 c2 c3 c4 c5 c6 c7 c8 c9 c10 c11 c12 c13 : Cl} {d : Ad} {h : UH} {a0 : Nat} {p1 : Int32} {p2 : Int32} {r : (Int32 × Cl × Cl × Cl × Cl)} (hD : 8 ≤ D) (hW : HW (mkw c0 c1 c2 c3 c4 c5 c6 c7 c8 c9 c10 c11 c12 c13) d h) (ha0 : aK d a0 = (0, 11, 0)) (hF : F_137 c1 c4 c7 c8 c10 c11 c13 d a0 p1 p2 = some r) : ∃ q, EX D 137 [.ref a0, .int p1, .int p2] h q ∧ q.1 = some (.int r.1) ∧ HW (mkw c0 c1 c2 c3 r.2.1 c5 c6 r.2.2.1 r.2.2.2.1 c9 r.2.2.2.2 c11 c12 c13) d q.2 := by
  obtain ⟨D, rfl⟩ : ∃ E, D = E + 1 := ⟨D - 1, by omega⟩
  unfold F_137 at hF
  refine ex_in (kl := kl_137) (nL := 4) rfl (by decide +kernel) (Nat.le_of_ble_eq_true rfl) ?_
  obtain ⟨QQ, hQQ⟩ : ∃ QQ : UR → Prop, QQ = (fun q : UR => q.1 = some (.int r.1) ∧ HW (mkw c0 c1 c2 c3 r.2.1 c5 c6 r.2.2.1 r.2.2.2.1 c9 r.2.2.2.2 c11 c12 c13) d q.2) := ⟨_, rfl⟩
  rw [← hQQ]
  have hQ : ∀ h' : UH, HW (mkw c0 c1 c2 c3 r.2.1 c5 c6 r.2.2.1 r.2.2.2.1 c9 r.2.2.2.2 c11 c12 c13) d h' → QQ (some (.int r.1), h') := fun h' p => by rw [hQQ]; exact ⟨rfl, p⟩
  clear hQQ
  show Ends (EX D) (u_at kl_137) (0, [some (.ref a0), some (.int p1), some (.int p2), none], [], h) QQ
  refine en_segs [(0, .aload_n 0, [])] (by decide +kernel) (y := (1, [some (.ref a0), some (.int p1), some (.int p2), none], [.ref a0], h)) rfl ?_
  obtain ⟨r1, hr1, hF⟩ := ob_some hF
  refine en_vi (r := []) (by decide +kernel : u_at kl_137 1 = some (.invokevirtual 222, [157, 0, 11])) hW ha0 rfl rfl (Nat.le_of_ble_eq_true rfl) (e_157 (D := D) (by omega) hW ha0 hr1) (fun h' q => ?_)
  subst q
  refine en_if_eq (by decide +kernel : u_at kl_137 4 = some (.ifCond .eq 30, [34])) (fun b2 => ?_) (fun b2 => ?_)
  · replace hF := i_pos b2 hF
    refine en_segs [(34, .iconst (-1), [])] (by decide +kernel) (y := (35, [some (.ref a0), some (.int p1), some (.int p2), none], [.int (-1)], h)) rfl ?_
    obtain rfl := Option.some.inj hF
    exact en_ret (by decide +kernel : u_at kl_137 35 = some (.ireturn, [0])) rfl (hQ _ hW)
  · replace hF := i_neg b2 hF
    refine en_segs [(7, .aload_n 0, []), (8, .iload_n 1, [])] (by decide +kernel) (y := (9, [some (.ref a0), some (.int p1), some (.int p2), none], [.int p1, .ref a0], h)) rfl ?_
    obtain ⟨r3, hr3, hF⟩ := ob_some hF
    refine en_vi (r := []) (by decide +kernel : u_at kl_137 9 = some (.invokevirtual 238, [163, 1, 11])) hW ha0 rfl rfl (Nat.le_of_ble_eq_true rfl) (e_163 (D := D) (by omega) hW ha0 hr3) (fun h' q => ?_)
    subst q
    refine en_if_eq (by decide +kernel : u_at kl_137 12 = some (.ifCond .eq 22, [34])) (fun b4 => ?_) (fun b4 => ?_)
    · replace hF := i_pos b4 hF
      refine en_segs [(34, .iconst (-1), [])] (by decide +kernel) (y := (35, [some (.ref a0), some (.int p1), some (.int p2), none], [.int (-1)], h)) rfl ?_
      obtain rfl := Option.some.inj hF
      exact en_ret (by decide +kernel : u_at kl_137 35 = some (.ireturn, [0])) rfl (hQ _ hW)
    · replace hF := i_neg b4 hF
      refine en_segs [(15, .iload_n 2, []), (16, .iconst 1, [])] (by decide +kernel) (y := (17, [some (.ref a0), some (.int p1), some (.int p2), none], [.int 1, .int p2], h)) rfl ?_
      refine en_ic_lt (by decide +kernel : u_at kl_137 17 = some (.if_icmp .lt 17, [34])) (fun b5 => ?_) (fun b5 => ?_)
      · replace hF := i_pos b5 hF
        refine en_segs [(34, .iconst (-1), [])] (by decide +kernel) (y := (35, [some (.ref a0), some (.int p1), some (.int p2), none], [.int (-1)], h)) rfl ?_
        obtain rfl := Option.some.inj hF
        exact en_ret (by decide +kernel : u_at kl_137 35 = some (.ireturn, [0])) rfl (hQ _ hW)
      · replace hF := i_neg b5 hF
        refine en_segs [(20, .iload_n 2, []), (21, .bipush 60, [])] (by decide +kernel) (y := (23, [some (.ref a0), some (.int p1), some (.int p2), none], [.int 60, .int p2], h)) rfl ?_
        refine en_ic_gt (by decide +kernel : u_at kl_137 23 = some (.if_icmp .gt 11, [34])) (fun b6 => ?_) (fun b6 => ?_)
        · replace hF := i_pos b6 hF
          refine en_segs [(34, .iconst (-1), [])] (by decide +kernel) (y := (35, [some (.ref a0), some (.int p1), some (.int p2), none], [.int (-1)], h)) rfl ?_
          obtain rfl := Option.some.inj hF
          exact en_ret (by decide +kernel : u_at kl_137 35 = some (.ireturn, [0])) rfl (hQ _ hW)
        · replace hF := i_neg b6 hF
          refine en_segs [(26, .aload_n 0, []), (27, .iload_n 2, [])] (by decide +kernel) (y := (28, [some (.ref a0), some (.int p1), some (.int p2), none], [.int p2, .ref a0], h)) rfl ?_
          obtain ⟨r7, hr7, hF⟩ := ob_some hF
          refine en_vi (r := []) (by decide +kernel : u_at kl_137 28 = some (.invokevirtual 211, [165, 1, 11])) hW ha0 rfl rfl (Nat.le_of_ble_eq_true rfl) (e_165 (D := D) (by omega) hW ha0 hr7) (fun h' q => ?_)
          subst q
          refine en_if_ne (by decide +kernel : u_at kl_137 31 = some (.ifCond .ne 5, [36])) (fun b8 => ?_) (fun b8 => ?_)
          · replace hF := i_pos b8 hF
            refine en_segs [(34, .iconst (-1), [])] (by decide +kernel) (y := (35, [some (.ref a0), some (.int p1), some (.int p2), none], [.int (-1)], h)) rfl ?_
            obtain rfl := Option.some.inj hF
            exact en_ret (by decide +kernel : u_at kl_137 35 = some (.ireturn, [0])) rfl (hQ _ hW)
          · replace hF := i_neg b8 hF
            refine en_segs [(36, .iconst 0, []), (37, .istore_n 3, [])] (by decide +kernel) (y := (38, [some (.ref a0), some (.int p1), some (.int p2), some (.int 0)], [], h)) rfl ?_
            exact (g_137 (D := D) hD ha0 _ _ _ _ _ _ _ _ hF) _ _ _ rfl rfl rfl rfl  _ hW _ hQ
