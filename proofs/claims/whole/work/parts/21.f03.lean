def G_115 (c6 : Cl) (c9 : Cl) (d : Ad) (a0 : Nat) (lab : Nat) (xs : List Int32) (ys : List Int64) (zs : List Nat) (c13 : Cl) : Option Cl := match lab, xs, ys, zs with
  | 0, [x1, x2, x3], [], [] =>
    if (cI c6 0 (cR c9 0 a0)) ≤ x3 then
    G_115 c6 c9 d a0 1 [x1, x2, 0] [] [] c13
    else
    ((if ((x1 >>> (x3 &&& 31)) &&& 1) = 1 then
    ald (cA c9 7 a0) 6 x3 >>= fun v6 =>
    some (x2 ||| v6)
    else
    some x2) : Option (Int32)) >>= fun (t3 : Int32) =>
    G_115 c6 c9 d a0 0 [x1, t3, x3 + 1] [] [] c13
  | 1, [x1, x2, x3], [], [] =>
    if (cI c6 0 (cR c9 0 a0)) ≤ x3 then
    some c13
    else
    ald (cA c9 8 a0) 6 x3 >>= fun v9 =>
    ((if (v9 &&& ((1 <<< (x3 &&& 31)) - 1)) = 0 then
    some 1
    else
    some 0) : Option (Int32)) >>= fun (t10 : Int32) =>
    ((if t10 = 0 then
    some c13
    else
    ald (cA c9 8 a0) 6 x3 >>= fun v15 =>
    if (x2 &&& v15) = 0 then
    some c13
    else
    ald (cA c9 8 a0) 6 x3 >>= fun v18 =>
    ldl (cB c13 0 (cR c9 6 a0)) (aN d (cR c9 6 a0)) (x2 &&& v18) >>= fun v19 =>
    ldl (cB c13 0 (cR c9 5 a0)) (aN d (cR c9 5 a0)) x1 >>= fun v21 =>
    stl c13 0 (cR c9 6 a0) (aN d (cR c9 6 a0)) (x2 &&& v18) (v19 + v21) >>= fun c13_22 =>
    some c13_22) : Option (Cl)) >>= fun (t12 : Cl) =>
    G_115 c6 c9 d a0 1 [x1, x2, x3 + 1] [] [] t12
  | _, _, _, _ => none
partial_fixpoint
set_option maxRecDepth 100000 in
set_option maxHeartbeats 4000000 in
theorem g_115 {D : Nat} (hD : 1 ≤ D + 1) {c0 c1 c2 c3 c4 c5 c6 c7 c8 c9 c10 c11 c12 : Cl} {d : Ad} {a0 : Nat} (ha0 : aK d a0 = (0, 9, 0)) : ∀ (lab : Nat) (xs : List Int32) (ys : List Int64) (zs : List Nat) (c13 : Cl) (r : Cl), G_115 c6 c9 d a0 lab xs ys zs c13 = some r →
    (∀ (x1 : Int32) (x2 : Int32) (x3 : Int32), lab = 0 → xs = [x1, x2, x3] → ys = [] → zs = [] → ∀ h : UH, HW (mkw c0 c1 c2 c3 c4 c5 c6 c7 c8 c9 c10 c11 c12 c13) d h → ∀ QQ : UR → Prop, (∀ h' : UH, HW (mkw c0 c1 c2 c3 c4 c5 c6 c7 c8 c9 c10 c11 c12 r) d h' → QQ (none, h')) → Ends (EX D) (u_at kl_115) (4, [some (.ref a0), some (.int x1), some (.int x2), some (.int x3), none], [], h) QQ) ∧
    (∀ (x1 : Int32) (x2 : Int32) (x3 : Int32), lab = 1 → xs = [x1, x2, x3] → ys = [] → zs = [] → ∀ h : UH, HW (mkw c0 c1 c2 c3 c4 c5 c6 c7 c8 c9 c10 c11 c12 c13) d h → ∀ QQ : UR → Prop, (∀ h' : UH, HW (mkw c0 c1 c2 c3 c4 c5 c6 c7 c8 c9 c10 c11 c12 r) d h' → QQ (none, h')) → Ends (EX D) (u_at kl_115) (41, [some (.ref a0), some (.int x1), some (.int x2), some (.int x3), none], [], h) QQ) := by
  refine G_115.partial_correctness _ _ _ _ (motive := fun lab xs ys zs c13 r =>
    (∀ (x1 : Int32) (x2 : Int32) (x3 : Int32), lab = 0 → xs = [x1, x2, x3] → ys = [] → zs = [] → ∀ h : UH, HW (mkw c0 c1 c2 c3 c4 c5 c6 c7 c8 c9 c10 c11 c12 c13) d h → ∀ QQ : UR → Prop, (∀ h' : UH, HW (mkw c0 c1 c2 c3 c4 c5 c6 c7 c8 c9 c10 c11 c12 r) d h' → QQ (none, h')) → Ends (EX D) (u_at kl_115) (4, [some (.ref a0), some (.int x1), some (.int x2), some (.int x3), none], [], h) QQ) ∧
    (∀ (x1 : Int32) (x2 : Int32) (x3 : Int32), lab = 1 → xs = [x1, x2, x3] → ys = [] → zs = [] → ∀ h : UH, HW (mkw c0 c1 c2 c3 c4 c5 c6 c7 c8 c9 c10 c11 c12 c13) d h → ∀ QQ : UR → Prop, (∀ h' : UH, HW (mkw c0 c1 c2 c3 c4 c5 c6 c7 c8 c9 c10 c11 c12 r) d h' → QQ (none, h')) → Ends (EX D) (u_at kl_115) (41, [some (.ref a0), some (.int x1), some (.int x2), some (.int x3), none], [], h) QQ)) ?_
  intro G ih lab xs ys zs c13 r hF
  refine ⟨?_, ?_⟩
  · intro x1 x2 x3 e1 e2 e3 e4 h hW QQ hQ
    subst e1 e2 e3 e4
    refine en_segs [(4, .iload_n 3, []), (5, .aload_n 0, [])] (by decide +kernel) (y := (6, [some (.ref a0), some (.int x1), some (.int x2), some (.int x3), none], [.ref a0, .int x3], h)) rfl ?_
    have k1 : aK d (cR c9 0 a0) = (0, 6, 0) := wf_obj hW ha0 (by decide) rfl
    refine en_get (by decide +kernel : u_at kl_115 6 = some (.getfield 34, [9, 0])) hW ha0 (by decide) rfl ?_
    refine en_get (by decide +kernel : u_at kl_115 9 = some (.getfield 51, [6, 0])) hW k1 (by decide) rfl ?_
    refine en_ic_ge (by decide +kernel : u_at kl_115 12 = some (.if_icmp .ge 27, [39])) (fun b2 => ?_) (fun b2 => ?_)
    · replace hF := i_pos b2 hF
      refine en_segs [(39, .iconst 0, []), (40, .istore_n 3, [])] (by decide +kernel) (y := (41, [some (.ref a0), some (.int x1), some (.int x2), some (.int 0), none], [], h)) rfl ?_
      exact (ih _ _ _ _ _ _ hF).2 _ _ _ rfl rfl rfl rfl  _ hW _ hQ
    · replace hF := i_neg b2 hF
      refine en_segs [(15, .iload_n 1, []), (16, .iload_n 3, []), (17, .ishr, []), (18, .iconst 1, []), (19, .iand, []), (20, .iconst 1, [])] (by decide +kernel) (y := (21, [some (.ref a0), some (.int x1), some (.int x2), some (.int x3), none], [.int 1, .int ((x1 >>> (x3 &&& 31)) &&& 1)], h)) rfl ?_
      obtain ⟨t3, hX, hK⟩ := ob_some hF
      have j4 : ∀ h : UH, HW (mkw c0 c1 c2 c3 c4 c5 c6 c7 c8 c9 c10 c11 c12 c13) d h → Ends (EX D) (u_at kl_115) (33, [some (.ref a0), some (.int x1), some (.int t3), some (.int x3), none], [], h) QQ := by
        intro h hW
        have hF := hK
        refine en_segs [(33, .iinc 3 1, []), (36, .goto (-32), [4])] (by decide +kernel) (y := (4, [some (.ref a0), some (.int x1), some (.int t3), some (.int (x3 + 1)), none], [], h)) rfl ?_
        exact (ih _ _ _ _ _ _ hF).1 _ _ _ rfl rfl rfl rfl  _ hW _ hQ
      have hF := hX
      refine en_ic_ne (by decide +kernel : u_at kl_115 21 = some (.if_icmp .ne 12, [33])) (fun b5 => ?_) (fun b5 => ?_)
      · replace hF := i_pos b5 hF
        refine en_segs [(24, .iload_n 2, []), (25, .aload_n 0, [])] (by decide +kernel) (y := (26, [some (.ref a0), some (.int x1), some (.int x2), some (.int x3), none], [.ref a0, .int x2], h)) rfl ?_
        refine en_get (by decide +kernel : u_at kl_115 26 = some (.getfield 28, [9, 7])) hW ha0 (by decide) rfl ?_
        refine en_segs [(29, .iload_n 3, [])] (by decide +kernel) (y := (30, [some (.ref a0), some (.int x1), some (.int x2), some (.int x3), none], [.int x3, .ref (aP d 9 7 a0), .int x2], h)) rfl ?_
        obtain ⟨v6, hv6, hF⟩ := ob_some hF
        refine en_iald (by decide +kernel : u_at kl_115 30 = some (.iaload, [])) hW ha0 rfl (by decide) hv6 ?_
        refine en_segs [(31, .ior, []), (32, .istore_n 2, [])] (by decide +kernel) (y := (33, [some (.ref a0), some (.int x1), some (.int (x2 ||| v6)), some (.int x3), none], [], h)) rfl ?_
        obtain rfl := Option.some.inj hF
        exact j4 _ hW
      · replace hF := i_neg b5 hF
        obtain rfl := Option.some.inj hF
        exact j4 _ hW
  · intro x1 x2 x3 e1 e2 e3 e4 h hW QQ hQ
    subst e1 e2 e3 e4
    refine en_segs [(41, .iload_n 3, []), (42, .aload_n 0, [])] (by decide +kernel) (y := (43, [some (.ref a0), some (.int x1), some (.int x2), some (.int x3), none], [.ref a0, .int x3], h)) rfl ?_
    have k7 : aK d (cR c9 0 a0) = (0, 6, 0) := wf_obj hW ha0 (by decide) rfl
    refine en_get (by decide +kernel : u_at kl_115 43 = some (.getfield 34, [9, 0])) hW ha0 (by decide) rfl ?_
    refine en_get (by decide +kernel : u_at kl_115 46 = some (.getfield 51, [6, 0])) hW k7 (by decide) rfl ?_
    refine en_ic_ge (by decide +kernel : u_at kl_115 49 = some (.if_icmp .ge 69, [118])) (fun b8 => ?_) (fun b8 => ?_)
    · replace hF := i_pos b8 hF
      obtain rfl := Option.some.inj hF
      exact en_ret (by decide +kernel : u_at kl_115 118 = some (.return_, [])) rfl (hQ _ hW)
    · replace hF := i_neg b8 hF
      refine en_segs [(52, .aload_n 0, [])] (by decide +kernel) (y := (53, [some (.ref a0), some (.int x1), some (.int x2), some (.int x3), none], [.ref a0], h)) rfl ?_
      refine en_get (by decide +kernel : u_at kl_115 53 = some (.getfield 31, [9, 8])) hW ha0 (by decide) rfl ?_
      refine en_segs [(56, .iload_n 3, [])] (by decide +kernel) (y := (57, [some (.ref a0), some (.int x1), some (.int x2), some (.int x3), none], [.int x3, .ref (aP d 9 8 a0)], h)) rfl ?_
      obtain ⟨v9, hv9, hF⟩ := ob_some hF
      refine en_iald (by decide +kernel : u_at kl_115 57 = some (.iaload, [])) hW ha0 rfl (by decide) hv9 ?_
      refine en_segs [(58, .iconst 1, []), (59, .iload_n 3, []), (60, .ishl, []), (61, .iconst 1, []), (62, .isub, []), (63, .iand, [])] (by decide +kernel) (y := (64, [some (.ref a0), some (.int x1), some (.int x2), some (.int x3), none], [.int (v9 &&& ((1 <<< (x3 &&& 31)) - 1))], h)) rfl ?_
      obtain ⟨t10, hX, hK⟩ := ob_some hF
      have j11 : ∀ h : UH, HW (mkw c0 c1 c2 c3 c4 c5 c6 c7 c8 c9 c10 c11 c12 c13) d h → Ends (EX D) (u_at kl_115) (72, [some (.ref a0), some (.int x1), some (.int x2), some (.int x3), none], [.int t10], h) QQ := by
        intro h hW
        have hF := hK
        refine en_segs [(72, .istore 4, []), (74, .iload 4, [])] (by decide +kernel) (y := (76, [some (.ref a0), some (.int x1), some (.int x2), some (.int x3), some (.int t10)], [.int t10], h)) rfl ?_
        obtain ⟨t12, hX, hK⟩ := ob_some hF
        have j13 : ∀ h : UH, HW (mkw c0 c1 c2 c3 c4 c5 c6 c7 c8 c9 c10 c11 c12 t12) d h → Ends (EX D) (u_at kl_115) (112, [some (.ref a0), some (.int x1), some (.int x2), some (.int x3), some (.int t10)], [], h) QQ := by
          intro h hW
          have hF := hK
          refine en_segs [(112, .iinc 3 1, []), (115, .goto (-74), [41])] (by decide +kernel) (y := (41, [some (.ref a0), some (.int x1), some (.int x2), some (.int (x3 + 1)), some (.int t10)], [], h)) rfl ?_
          refine en_fg (fg_k (fg_k (fg_k (fg_k (fg_d fg_0))))) ?_
          exact (ih _ _ _ _ _ _ hF).2 _ _ _ rfl rfl rfl rfl  _ hW _ hQ
        have hF := hX
        refine en_if_eq (by decide +kernel : u_at kl_115 76 = some (.ifCond .eq 36, [112])) (fun b14 => ?_) (fun b14 => ?_)
        · replace hF := i_pos b14 hF
          obtain rfl := Option.some.inj hF
          exact j13 _ hW
        · replace hF := i_neg b14 hF
          refine en_segs [(79, .iload_n 2, []), (80, .aload_n 0, [])] (by decide +kernel) (y := (81, [some (.ref a0), some (.int x1), some (.int x2), some (.int x3), some (.int t10)], [.ref a0, .int x2], h)) rfl ?_
          refine en_get (by decide +kernel : u_at kl_115 81 = some (.getfield 31, [9, 8])) hW ha0 (by decide) rfl ?_
          refine en_segs [(84, .iload_n 3, [])] (by decide +kernel) (y := (85, [some (.ref a0), some (.int x1), some (.int x2), some (.int x3), some (.int t10)], [.int x3, .ref (aP d 9 8 a0), .int x2], h)) rfl ?_
          obtain ⟨v15, hv15, hF⟩ := ob_some hF
          refine en_iald (by decide +kernel : u_at kl_115 85 = some (.iaload, [])) hW ha0 rfl (by decide) hv15 ?_
          refine en_segs [(86, .iand, [])] (by decide +kernel) (y := (87, [some (.ref a0), some (.int x1), some (.int x2), some (.int x3), some (.int t10)], [.int (x2 &&& v15)], h)) rfl ?_
          refine en_if_eq (by decide +kernel : u_at kl_115 87 = some (.ifCond .eq 25, [112])) (fun b16 => ?_) (fun b16 => ?_)
          · replace hF := i_pos b16 hF
            obtain rfl := Option.some.inj hF
            exact j13 _ hW
          · replace hF := i_neg b16 hF
            refine en_segs [(90, .aload_n 0, [])] (by decide +kernel) (y := (91, [some (.ref a0), some (.int x1), some (.int x2), some (.int x3), some (.int t10)], [.ref a0], h)) rfl ?_
            have k17 : aK d (cR c9 6 a0) = (2, 2, 0) := wf_free hW ha0 (by decide) rfl
            refine en_get (by decide +kernel : u_at kl_115 91 = some (.getfield 25, [9, 6])) hW ha0 (by decide) rfl ?_
            refine en_segs [(94, .iload_n 2, []), (95, .aload_n 0, [])] (by decide +kernel) (y := (96, [some (.ref a0), some (.int x1), some (.int x2), some (.int x3), some (.int t10)], [.ref a0, .int x2, .ref (cR c9 6 a0)], h)) rfl ?_
            refine en_get (by decide +kernel : u_at kl_115 96 = some (.getfield 31, [9, 8])) hW ha0 (by decide) rfl ?_
            refine en_segs [(99, .iload_n 3, [])] (by decide +kernel) (y := (100, [some (.ref a0), some (.int x1), some (.int x2), some (.int x3), some (.int t10)], [.int x3, .ref (aP d 9 8 a0), .int x2, .ref (cR c9 6 a0)], h)) rfl ?_
            obtain ⟨v18, hv18, hF⟩ := ob_some hF
            refine en_iald (by decide +kernel : u_at kl_115 100 = some (.iaload, [])) hW ha0 rfl (by decide) hv18 ?_
            refine en_segs [(101, .iand, []), (102, .dup2, [])] (by decide +kernel) (y := (103, [some (.ref a0), some (.int x1), some (.int x2), some (.int x3), some (.int t10)], [.int (x2 &&& v18), .ref (cR c9 6 a0), .int (x2 &&& v18), .ref (cR c9 6 a0)], h)) rfl ?_
            obtain ⟨v19, hv19, hF⟩ := ob_some hF
            refine en_flald (by decide +kernel : u_at kl_115 103 = some (.laload, [])) hW k17 hv19 ?_
            refine en_segs [(104, .aload_n 0, [])] (by decide +kernel) (y := (105, [some (.ref a0), some (.int x1), some (.int x2), some (.int x3), some (.int t10)], [.ref a0, .long v19, .int (x2 &&& v18), .ref (cR c9 6 a0)], h)) rfl ?_
            have k20 : aK d (cR c9 5 a0) = (2, 2, 0) := wf_free hW ha0 (by decide) rfl
            refine en_get (by decide +kernel : u_at kl_115 105 = some (.getfield 21, [9, 5])) hW ha0 (by decide) rfl ?_
            refine en_segs [(108, .iload_n 1, [])] (by decide +kernel) (y := (109, [some (.ref a0), some (.int x1), some (.int x2), some (.int x3), some (.int t10)], [.int x1, .ref (cR c9 5 a0), .long v19, .int (x2 &&& v18), .ref (cR c9 6 a0)], h)) rfl ?_
            obtain ⟨v21, hv21, hF⟩ := ob_some hF
            refine en_flald (by decide +kernel : u_at kl_115 109 = some (.laload, [])) hW k20 hv21 ?_
            refine en_segs [(110, .ladd, [])] (by decide +kernel) (y := (111, [some (.ref a0), some (.int x1), some (.int x2), some (.int x3), some (.int t10)], [.long (v19 + v21), .int (x2 &&& v18), .ref (cR c9 6 a0)], h)) rfl ?_
            obtain ⟨c13_22, hc13_22, hF⟩ := ob_some hF
            refine en_flast (by decide +kernel : u_at kl_115 111 = some (.lastore, [])) hW k17 hc13_22 (fun h hW => ?_)
            have hW : HW (mkw c0 c1 c2 c3 c4 c5 c6 c7 c8 c9 c10 c11 c12 c13_22) d h := hW
            obtain rfl := Option.some.inj hF
            exact j13 _ hW
      have hF := hX
      refine en_if_ne (by decide +kernel : u_at kl_115 64 = some (.ifCond .ne 7, [71])) (fun b23 => ?_) (fun b23 => ?_)
      · replace hF := i_pos b23 hF
        refine en_segs [(67, .iconst 1, []), (68, .goto 4, [72])] (by decide +kernel) (y := (72, [some (.ref a0), some (.int x1), some (.int x2), some (.int x3), none], [.int 1], h)) rfl ?_
        obtain rfl := Option.some.inj hF
        exact j11 _ hW
      · replace hF := i_neg b23 hF
        refine en_segs [(71, .iconst 0, [])] (by decide +kernel) (y := (72, [some (.ref a0), some (.int x1), some (.int x2), some (.int x3), none], [.int 0], h)) rfl ?_
        obtain rfl := Option.some.inj hF
        exact j11 _ hW
def F_115 (c6 : Cl) (c9 : Cl) (c13 : Cl) (d : Ad) (a0 : Nat) (p1 : Int32) : Option Cl :=
  G_115 c6 c9 d a0 0 [p1, 0, 0] [] [] c13
set_option maxRecDepth 100000 in
set_option maxHeartbeats 4000000 in
/-- HeadCounts$Watching.addRows -/
theorem e_115 {D : Nat} {c0 c1 c2 c3 c4 c5 c6 c7 c8 c9 c10 c11 c12 c13 : Cl} {d : Ad} {h : UH} {a0 : Nat} {p1 : Int32} {r : Cl} (hD : 1 ≤ D) (hW : HW (mkw c0 c1 c2 c3 c4 c5 c6 c7 c8 c9 c10 c11 c12 c13) d h) (ha0 : aK d a0 = (0, 9, 0)) (hF : F_115 c6 c9 c13 d a0 p1 = some r) : ∃ q, EX D 115 [.ref a0, .int p1] h q ∧ q.1 = none ∧ HW (mkw c0 c1 c2 c3 c4 c5 c6 c7 c8 c9 c10 c11 c12 r) d q.2 := by
  obtain ⟨D, rfl⟩ : ∃ E, D = E + 1 := ⟨D - 1, by omega⟩
  unfold F_115 at hF
  refine ex_in (kl := kl_115) (nL := 5) rfl (by decide +kernel) (Nat.le_of_ble_eq_true rfl) ?_
  obtain ⟨QQ, hQQ⟩ : ∃ QQ : UR → Prop, QQ = (fun q : UR => q.1 = none ∧ HW (mkw c0 c1 c2 c3 c4 c5 c6 c7 c8 c9 c10 c11 c12 r) d q.2) := ⟨_, rfl⟩
  rw [← hQQ]
  have hQ : ∀ h' : UH, HW (mkw c0 c1 c2 c3 c4 c5 c6 c7 c8 c9 c10 c11 c12 r) d h' → QQ (none, h') := fun h' p => by rw [hQQ]; exact ⟨rfl, p⟩
  clear hQQ
  show Ends (EX D) (u_at kl_115) (0, [some (.ref a0), some (.int p1), none, none, none], [], h) QQ
  refine en_segs [(0, .iconst 0, []), (1, .istore_n 2, []), (2, .iconst 0, []), (3, .istore_n 3, [])] (by decide +kernel) (y := (4, [some (.ref a0), some (.int p1), some (.int 0), some (.int 0), none], [], h)) rfl ?_
  exact (g_115 (D := D) hD (d := d) ha0 _ _ _ _ _ _ hF).1 _ _ _ rfl rfl rfl rfl  _ hW _ hQ
def F_117 (c1 : Cl) (c8 : Cl) (c10 : Cl) (a0 : Nat) (a1 : Nat) : Option (Cl × Cl) :=
  F_81 c1 c8 (cR c10 0 a0) a1 >>= fun r2 =>
  some (sI c10 3 a0 0) >>= fun c10_3 =>
  some (sI c10_3 5 a0 0) >>= fun c10_4 =>
  some (r2, c10_4)
set_option maxRecDepth 100000 in
set_option maxHeartbeats 4000000 in
/-- HeadCounts$World.enter -/
theorem e_117 {D : Nat} {c0 c1 c2 c3 c4 c5 c6 c7 c8 c9 c10 c11 c12 c13 : Cl} {d : Ad} {h : UH} {a0 : Nat} {a1 : Nat} {r : (Cl × Cl)} (hD : 4 ≤ D) (hW : HW (mkw c0 c1 c2 c3 c4 c5 c6 c7 c8 c9 c10 c11 c12 c13) d h) (ha0 : aK d a0 = (0, 10, 0)) (ha1 : aK d a1 = (0, 1, 0)) (hF : F_117 c1 c8 c10 a0 a1 = some r) : ∃ q, EX D 117 [.ref a0, .ref a1] h q ∧ q.1 = none ∧ HW (mkw c0 c1 c2 c3 c4 c5 c6 c7 r.1 c9 r.2 c11 c12 c13) d q.2 := by
  obtain ⟨D, rfl⟩ : ∃ E, D = E + 1 := ⟨D - 1, by omega⟩
  unfold F_117 at hF
  refine ex_in (kl := kl_117) (nL := 2) rfl (by decide +kernel) (Nat.le_of_ble_eq_true rfl) ?_
  obtain ⟨QQ, hQQ⟩ : ∃ QQ : UR → Prop, QQ = (fun q : UR => q.1 = none ∧ HW (mkw c0 c1 c2 c3 c4 c5 c6 c7 r.1 c9 r.2 c11 c12 c13) d q.2) := ⟨_, rfl⟩
  rw [← hQQ]
  have hQ : ∀ h' : UH, HW (mkw c0 c1 c2 c3 c4 c5 c6 c7 r.1 c9 r.2 c11 c12 c13) d h' → QQ (none, h') := fun h' p => by rw [hQQ]; exact ⟨rfl, p⟩
  clear hQQ
  show Ends (EX D) (u_at kl_117) (0, [some (.ref a0), some (.ref a1)], [], h) QQ
  refine en_segs [(0, .aload_n 0, [])] (by decide +kernel) (y := (1, [some (.ref a0), some (.ref a1)], [.ref a0], h)) rfl ?_
  have k1 : aK d (cR c10 0 a0) = (0, 8, 0) := wf_obj hW ha0 (by decide) rfl
  refine en_get (by decide +kernel : u_at kl_117 1 = some (.getfield 30, [10, 0])) hW ha0 (by decide) rfl ?_
  refine en_segs [(4, .aload_n 1, [])] (by decide +kernel) (y := (5, [some (.ref a0), some (.ref a1)], [.ref a1, .ref (cR c10 0 a0)], h)) rfl ?_
  obtain ⟨r2, hr2, hF⟩ := ob_some hF
  refine en_vv (r := []) (by decide +kernel : u_at kl_117 5 = some (.invokevirtual 34, [81, 1, 8])) hW k1 rfl rfl (Nat.le_of_ble_eq_true rfl) (e_81 (D := D) (by omega) hW k1 ha1 hr2) (fun h hW => ?_)
  have hW : HW (mkw c0 c1 c2 c3 c4 c5 c6 c7 r2 c9 c10 c11 c12 c13) d h := hW
  refine en_segs [(8, .aload_n 0, []), (9, .iconst 0, [])] (by decide +kernel) (y := (10, [some (.ref a0), some (.ref a1)], [.int 0, .ref a0], h)) rfl ?_
  obtain ⟨c10_3, hc10_3, hF⟩ := ob_some hF
  refine en_putI (by decide +kernel : u_at kl_117 10 = some (.putfield 37, [10, 3, 0])) hW ha0 rfl (by decide) rfl (fun h hW => ?_)
  have hW : HW (mkw c0 c1 c2 c3 c4 c5 c6 c7 r2 c9 c10_3 c11 c12 c13) d h := by rw [← Option.some.inj hc10_3]; exact hW
  refine en_segs [(13, .aload_n 0, []), (14, .iconst 0, [])] (by decide +kernel) (y := (15, [some (.ref a0), some (.ref a1)], [.int 0, .ref a0], h)) rfl ?_
  obtain ⟨c10_4, hc10_4, hF⟩ := ob_some hF
  refine en_putI (by decide +kernel : u_at kl_117 15 = some (.putfield 41, [10, 5, 0])) hW ha0 rfl (by decide) rfl (fun h hW => ?_)
  have hW : HW (mkw c0 c1 c2 c3 c4 c5 c6 c7 r2 c9 c10_4 c11 c12 c13) d h := by rw [← Option.some.inj hc10_4]; exact hW
  obtain rfl := Option.some.inj hF
  exact en_ret (by decide +kernel : u_at kl_117 18 = some (.return_, [])) rfl (hQ _ hW)
def F_119 (c1 : Cl) (c8 : Cl) (c10 : Cl) (a0 : Nat) (p1 : Int32) (p2 : Int32) (p3 : Int32) : Option (Cl × Cl) :=
  irm ((cI c10 2 a0) + (cI c10 3 a0)) 20 >>= fun v1 =>
  ldq (cQ c10 1 a0) 20 v1 >>= fun v2 =>
  v2 >>= fun o4 =>
  F_82 c8 o4 (cR c10 0 a0) >>= fun r6 =>
  ((if 20 ≤ (cI c10 3 a0) then
  irm ((cI c10 2 a0) + 1) 20 >>= fun v12 =>
  some (sI c10 2 a0 v12) >>= fun c10_13 =>
  some c10_13
  else
  some (sI c10 3 a0 ((cI c10 3 a0) + 1)) >>= fun c10_14 =>
  some c10_14) : Option (Cl)) >>= fun (t7 : Cl) =>
  F_92 c1 r6 (cR t7 0 a0) p1 p2 p3 >>= fun r10 =>
  some (r10, t7)
set_option maxRecDepth 100000 in
set_option maxHeartbeats 4000000 in
/-- HeadCounts$World.passMinute -/
theorem e_119 {D : Nat} {c0 c1 c2 c3 c4 c5 c6 c7 c8 c9 c10 c11 c12 c13 : Cl} {d : Ad} {h : UH} {a0 : Nat} {p1 : Int32} {p2 : Int32} {p3 : Int32} {r : (Cl × Cl)} (hD : 4 ≤ D) (hW : HW (mkw c0 c1 c2 c3 c4 c5 c6 c7 c8 c9 c10 c11 c12 c13) d h) (ha0 : aK d a0 = (0, 10, 0)) (hF : F_119 c1 c8 c10 a0 p1 p2 p3 = some r) : ∃ q, EX D 119 [.ref a0, .int p1, .int p2, .int p3] h q ∧ q.1 = none ∧ HW (mkw c0 c1 c2 c3 c4 c5 c6 c7 r.1 c9 r.2 c11 c12 c13) d q.2 := by
  obtain ⟨D, rfl⟩ : ∃ E, D = E + 1 := ⟨D - 1, by omega⟩
  unfold F_119 at hF
  refine ex_in (kl := kl_119) (nL := 4) rfl (by decide +kernel) (Nat.le_of_ble_eq_true rfl) ?_
  obtain ⟨QQ, hQQ⟩ : ∃ QQ : UR → Prop, QQ = (fun q : UR => q.1 = none ∧ HW (mkw c0 c1 c2 c3 c4 c5 c6 c7 r.1 c9 r.2 c11 c12 c13) d q.2) := ⟨_, rfl⟩
  rw [← hQQ]
  have hQ : ∀ h' : UH, HW (mkw c0 c1 c2 c3 c4 c5 c6 c7 r.1 c9 r.2 c11 c12 c13) d h' → QQ (none, h') := fun h' p => by rw [hQQ]; exact ⟨rfl, p⟩
  clear hQQ
  show Ends (EX D) (u_at kl_119) (0, [some (.ref a0), some (.int p1), some (.int p2), some (.int p3)], [], h) QQ
  refine en_segs [(0, .aload_n 0, [])] (by decide +kernel) (y := (1, [some (.ref a0), some (.int p1), some (.int p2), some (.int p3)], [.ref a0], h)) rfl ?_
  refine en_get (by decide +kernel : u_at kl_119 1 = some (.getfield 11, [10, 1])) hW ha0 (by decide) rfl ?_
  refine en_segs [(4, .aload_n 0, [])] (by decide +kernel) (y := (5, [some (.ref a0), some (.int p1), some (.int p2), some (.int p3)], [.ref a0, .ref (aP d 10 1 a0)], h)) rfl ?_
  refine en_get (by decide +kernel : u_at kl_119 5 = some (.getfield 48, [10, 2])) hW ha0 (by decide) rfl ?_
  refine en_segs [(8, .aload_n 0, [])] (by decide +kernel) (y := (9, [some (.ref a0), some (.int p1), some (.int p2), some (.int p3)], [.ref a0, .int (cI c10 2 a0), .ref (aP d 10 1 a0)], h)) rfl ?_
  refine en_get (by decide +kernel : u_at kl_119 9 = some (.getfield 37, [10, 3])) hW ha0 (by decide) rfl ?_
  refine en_segs [(12, .iadd, []), (13, .bipush 20, [])] (by decide +kernel) (y := (15, [some (.ref a0), some (.int p1), some (.int p2), some (.int p3)], [.int 20, .int ((cI c10 2 a0) + (cI c10 3 a0)), .ref (aP d 10 1 a0)], h)) rfl ?_
  obtain ⟨v1, hv1, hF⟩ := ob_some hF
  refine en_irem (by decide +kernel : u_at kl_119 15 = some (.irem, [])) hv1 ?_
  obtain ⟨v2, hv2, hF⟩ := ob_some hF
  have ev2 : ∀ q, v2 = some q → aK d q = (0, 8, 0) := fun q e => wf_elem (t := 5) hW ha0 (by decide) rfl (by decide) ((ldq_some hv2).2.trans e)
  refine en_aald (by decide +kernel : u_at kl_119 16 = some (.aaload, [])) hW ha0 rfl (by decide) (by decide) hv2 ?_
  refine en_segs [(17, .aload_n 0, [])] (by decide +kernel) (y := (18, [some (.ref a0), some (.int p1), some (.int p2), some (.int p3)], [.ref a0, va_rf v2], h)) rfl ?_
  have k3 : aK d (cR c10 0 a0) = (0, 8, 0) := wf_obj hW ha0 (by decide) rfl
  refine en_get (by decide +kernel : u_at kl_119 18 = some (.getfield 30, [10, 0])) hW ha0 (by decide) rfl ?_
  obtain ⟨o4, ho4, hF⟩ := ob_some hF
  have k5 : aK d o4 = (0, 8, 0) := ev2 o4 ho4
  rw [ho4]
  obtain ⟨r6, hr6, hF⟩ := ob_some hF
  refine en_vv (r := []) (by decide +kernel : u_at kl_119 21 = some (.invokevirtual 44, [82, 1, 8])) hW k5 rfl rfl (Nat.le_of_ble_eq_true rfl) (e_82 (D := D) (by omega) hW k5 k3 hr6) (fun h hW => ?_)
  have hW : HW (mkw c0 c1 c2 c3 c4 c5 c6 c7 r6 c9 c10 c11 c12 c13) d h := hW
  refine en_segs [(24, .aload_n 0, [])] (by decide +kernel) (y := (25, [some (.ref a0), some (.int p1), some (.int p2), some (.int p3)], [.ref a0], h)) rfl ?_
  refine en_get (by decide +kernel : u_at kl_119 25 = some (.getfield 37, [10, 3])) hW ha0 (by decide) rfl ?_
  refine en_segs [(28, .bipush 20, [])] (by decide +kernel) (y := (30, [some (.ref a0), some (.int p1), some (.int p2), some (.int p3)], [.int 20, .int (cI c10 3 a0)], h)) rfl ?_
  obtain ⟨t7, hX, hK⟩ := ob_some hF
  have j8 : ∀ h : UH, HW (mkw c0 c1 c2 c3 c4 c5 c6 c7 r6 c9 t7 c11 c12 c13) d h → Ends (EX D) (u_at kl_119) (59, [some (.ref a0), some (.int p1), some (.int p2), some (.int p3)], [], h) QQ := by
    intro h hW
    have hF := hK
    refine en_segs [(59, .aload_n 0, [])] (by decide +kernel) (y := (60, [some (.ref a0), some (.int p1), some (.int p2), some (.int p3)], [.ref a0], h)) rfl ?_
    have k9 : aK d (cR t7 0 a0) = (0, 8, 0) := wf_obj hW ha0 (by decide) rfl
    refine en_get (by decide +kernel : u_at kl_119 60 = some (.getfield 30, [10, 0])) hW ha0 (by decide) rfl ?_
    refine en_segs [(63, .iload_n 1, []), (64, .iload_n 2, []), (65, .iload_n 3, [])] (by decide +kernel) (y := (66, [some (.ref a0), some (.int p1), some (.int p2), some (.int p3)], [.int p3, .int p2, .int p1, .ref (cR t7 0 a0)], h)) rfl ?_
    obtain ⟨r10, hr10, hF⟩ := ob_some hF
    refine en_vv (r := []) (by decide +kernel : u_at kl_119 66 = some (.invokevirtual 60, [92, 3, 8])) hW k9 rfl rfl (Nat.le_of_ble_eq_true rfl) (e_92 (D := D) (by omega) hW k9 hr10) (fun h hW => ?_)
    have hW : HW (mkw c0 c1 c2 c3 c4 c5 c6 c7 r10 c9 t7 c11 c12 c13) d h := hW
    obtain rfl := Option.some.inj hF
    exact en_ret (by decide +kernel : u_at kl_119 69 = some (.return_, [])) rfl (hQ _ hW)
  have hF := hX
  refine en_ic_ge (by decide +kernel : u_at kl_119 30 = some (.if_icmp .ge 16, [46])) (fun b11 => ?_) (fun b11 => ?_)
  · replace hF := i_pos b11 hF
    refine en_segs [(46, .aload_n 0, []), (47, .aload_n 0, [])] (by decide +kernel) (y := (48, [some (.ref a0), some (.int p1), some (.int p2), some (.int p3)], [.ref a0, .ref a0], h)) rfl ?_
    refine en_get (by decide +kernel : u_at kl_119 48 = some (.getfield 48, [10, 2])) hW ha0 (by decide) rfl ?_
    refine en_segs [(51, .iconst 1, []), (52, .iadd, []), (53, .bipush 20, [])] (by decide +kernel) (y := (55, [some (.ref a0), some (.int p1), some (.int p2), some (.int p3)], [.int 20, .int ((cI c10 2 a0) + 1), .ref a0], h)) rfl ?_
    obtain ⟨v12, hv12, hF⟩ := ob_some hF
    refine en_irem (by decide +kernel : u_at kl_119 55 = some (.irem, [])) hv12 ?_
    obtain ⟨c10_13, hc10_13, hF⟩ := ob_some hF
    refine en_putI (by decide +kernel : u_at kl_119 56 = some (.putfield 48, [10, 2, 0])) hW ha0 rfl (by decide) rfl (fun h hW => ?_)
    have hW : HW (mkw c0 c1 c2 c3 c4 c5 c6 c7 r6 c9 c10_13 c11 c12 c13) d h := by rw [← Option.some.inj hc10_13]; exact hW
    obtain rfl := Option.some.inj hF
    exact j8 _ hW
  · replace hF := i_neg b11 hF
    refine en_segs [(33, .aload_n 0, []), (34, .dup, [])] (by decide +kernel) (y := (35, [some (.ref a0), some (.int p1), some (.int p2), some (.int p3)], [.ref a0, .ref a0], h)) rfl ?_
    refine en_get (by decide +kernel : u_at kl_119 35 = some (.getfield 37, [10, 3])) hW ha0 (by decide) rfl ?_
    refine en_segs [(38, .iconst 1, []), (39, .iadd, [])] (by decide +kernel) (y := (40, [some (.ref a0), some (.int p1), some (.int p2), some (.int p3)], [.int ((cI c10 3 a0) + 1), .ref a0], h)) rfl ?_
    obtain ⟨c10_14, hc10_14, hF⟩ := ob_some hF
    refine en_putI (by decide +kernel : u_at kl_119 40 = some (.putfield 37, [10, 3, 0])) hW ha0 rfl (by decide) rfl (fun h hW => ?_)
    have hW : HW (mkw c0 c1 c2 c3 c4 c5 c6 c7 r6 c9 c10_14 c11 c12 c13) d h := by rw [← Option.some.inj hc10_14]; exact hW
    refine en_segs [(43, .goto 16, [59])] (by decide +kernel) (y := (59, [some (.ref a0), some (.int p1), some (.int p2), some (.int p3)], [], h)) rfl ?_
    obtain rfl := Option.some.inj hF
    exact j8 _ hW
def F_121 (c10 : Cl) (a0 : Nat) (p1 : Int32) (p2 : Int32) (p3 : Int32) : Option Cl :=
  ((if 12 ≤ (cI c10 5 a0) then
  some c10
  else
  ast c10 6 a0 12 (cI c10 5 a0) p1 >>= fun c10_4 =>
  ast c10_4 7 a0 12 (cI c10_4 5 a0) p2 >>= fun c10_5 =>
  ast c10_5 8 a0 12 (cI c10_5 5 a0) p3 >>= fun c10_6 =>
  some (sI c10_6 5 a0 ((cI c10_6 5 a0) + 1)) >>= fun c10_7 =>
  some c10_7) : Option (Cl)) >>= fun (t1 : Cl) =>
  some t1
set_option maxRecDepth 100000 in
set_option maxHeartbeats 4000000 in
/-- HeadCounts$World.addTold -/
theorem e_121 {D : Nat} {c0 c1 c2 c3 c4 c5 c6 c7 c8 c9 c10 c11 c12 c13 : Cl} {d : Ad} {h : UH} {a0 : Nat} {p1 : Int32} {p2 : Int32} {p3 : Int32} {r : Cl} (hD : 1 ≤ D) (hW : HW (mkw c0 c1 c2 c3 c4 c5 c6 c7 c8 c9 c10 c11 c12 c13) d h) (ha0 : aK d a0 = (0, 10, 0)) (hF : F_121 c10 a0 p1 p2 p3 = some r) : ∃ q, EX D 121 [.ref a0, .int p1, .int p2, .int p3] h q ∧ q.1 = none ∧ HW (mkw c0 c1 c2 c3 c4 c5 c6 c7 c8 c9 r c11 c12 c13) d q.2 := by
  obtain ⟨D, rfl⟩ : ∃ E, D = E + 1 := ⟨D - 1, by omega⟩
  unfold F_121 at hF
  refine ex_in (kl := kl_121) (nL := 4) rfl (by decide +kernel) (Nat.le_of_ble_eq_true rfl) ?_
  obtain ⟨QQ, hQQ⟩ : ∃ QQ : UR → Prop, QQ = (fun q : UR => q.1 = none ∧ HW (mkw c0 c1 c2 c3 c4 c5 c6 c7 c8 c9 r c11 c12 c13) d q.2) := ⟨_, rfl⟩
  rw [← hQQ]
  have hQ : ∀ h' : UH, HW (mkw c0 c1 c2 c3 c4 c5 c6 c7 c8 c9 r c11 c12 c13) d h' → QQ (none, h') := fun h' p => by rw [hQQ]; exact ⟨rfl, p⟩
  clear hQQ
  show Ends (EX D) (u_at kl_121) (0, [some (.ref a0), some (.int p1), some (.int p2), some (.int p3)], [], h) QQ
  refine en_segs [(0, .aload_n 0, [])] (by decide +kernel) (y := (1, [some (.ref a0), some (.int p1), some (.int p2), some (.int p3)], [.ref a0], h)) rfl ?_
  refine en_get (by decide +kernel : u_at kl_121 1 = some (.getfield 41, [10, 5])) hW ha0 (by decide) rfl ?_
  refine en_segs [(4, .bipush 12, [])] (by decide +kernel) (y := (6, [some (.ref a0), some (.int p1), some (.int p2), some (.int p3)], [.int 12, .int (cI c10 5 a0)], h)) rfl ?_
  obtain ⟨t1, hX, hK⟩ := ob_some hF
  have j2 : ∀ h : UH, HW (mkw c0 c1 c2 c3 c4 c5 c6 c7 c8 c9 t1 c11 c12 c13) d h → Ends (EX D) (u_at kl_121) (49, [some (.ref a0), some (.int p1), some (.int p2), some (.int p3)], [], h) QQ := by
    intro h hW
    have hF := hK
    obtain rfl := Option.some.inj hF
    exact en_ret (by decide +kernel : u_at kl_121 49 = some (.return_, [])) rfl (hQ _ hW)
  have hF := hX
  refine en_ic_ge (by decide +kernel : u_at kl_121 6 = some (.if_icmp .ge 43, [49])) (fun b3 => ?_) (fun b3 => ?_)
  · replace hF := i_pos b3 hF
    obtain rfl := Option.some.inj hF
    exact j2 _ hW
  · replace hF := i_neg b3 hF
    refine en_segs [(9, .aload_n 0, [])] (by decide +kernel) (y := (10, [some (.ref a0), some (.int p1), some (.int p2), some (.int p3)], [.ref a0], h)) rfl ?_
    refine en_get (by decide +kernel : u_at kl_121 10 = some (.getfield 17, [10, 6])) hW ha0 (by decide) rfl ?_
    refine en_segs [(13, .aload_n 0, [])] (by decide +kernel) (y := (14, [some (.ref a0), some (.int p1), some (.int p2), some (.int p3)], [.ref a0, .ref (aP d 10 6 a0)], h)) rfl ?_
    refine en_get (by decide +kernel : u_at kl_121 14 = some (.getfield 41, [10, 5])) hW ha0 (by decide) rfl ?_
    refine en_segs [(17, .iload_n 1, [])] (by decide +kernel) (y := (18, [some (.ref a0), some (.int p1), some (.int p2), some (.int p3)], [.int p1, .int (cI c10 5 a0), .ref (aP d 10 6 a0)], h)) rfl ?_
    obtain ⟨c10_4, hc10_4, hF⟩ := ob_some hF
    refine en_iast (by decide +kernel : u_at kl_121 18 = some (.iastore, [])) hW ha0 rfl (by decide) hc10_4 (fun h hW => ?_)
    have hW : HW (mkw c0 c1 c2 c3 c4 c5 c6 c7 c8 c9 c10_4 c11 c12 c13) d h := hW
    refine en_segs [(19, .aload_n 0, [])] (by decide +kernel) (y := (20, [some (.ref a0), some (.int p1), some (.int p2), some (.int p3)], [.ref a0], h)) rfl ?_
    refine en_get (by decide +kernel : u_at kl_121 20 = some (.getfield 21, [10, 7])) hW ha0 (by decide) rfl ?_
    refine en_segs [(23, .aload_n 0, [])] (by decide +kernel) (y := (24, [some (.ref a0), some (.int p1), some (.int p2), some (.int p3)], [.ref a0, .ref (aP d 10 7 a0)], h)) rfl ?_
    refine en_get (by decide +kernel : u_at kl_121 24 = some (.getfield 41, [10, 5])) hW ha0 (by decide) rfl ?_
    refine en_segs [(27, .iload_n 2, [])] (by decide +kernel) (y := (28, [some (.ref a0), some (.int p1), some (.int p2), some (.int p3)], [.int p2, .int (cI c10_4 5 a0), .ref (aP d 10 7 a0)], h)) rfl ?_
    obtain ⟨c10_5, hc10_5, hF⟩ := ob_some hF
    refine en_iast (by decide +kernel : u_at kl_121 28 = some (.iastore, [])) hW ha0 rfl (by decide) hc10_5 (fun h hW => ?_)
    have hW : HW (mkw c0 c1 c2 c3 c4 c5 c6 c7 c8 c9 c10_5 c11 c12 c13) d h := hW
    refine en_segs [(29, .aload_n 0, [])] (by decide +kernel) (y := (30, [some (.ref a0), some (.int p1), some (.int p2), some (.int p3)], [.ref a0], h)) rfl ?_
    refine en_get (by decide +kernel : u_at kl_121 30 = some (.getfield 24, [10, 8])) hW ha0 (by decide) rfl ?_
    refine en_segs [(33, .aload_n 0, [])] (by decide +kernel) (y := (34, [some (.ref a0), some (.int p1), some (.int p2), some (.int p3)], [.ref a0, .ref (aP d 10 8 a0)], h)) rfl ?_
    refine en_get (by decide +kernel : u_at kl_121 34 = some (.getfield 41, [10, 5])) hW ha0 (by decide) rfl ?_
    refine en_segs [(37, .iload_n 3, [])] (by decide +kernel) (y := (38, [some (.ref a0), some (.int p1), some (.int p2), some (.int p3)], [.int p3, .int (cI c10_5 5 a0), .ref (aP d 10 8 a0)], h)) rfl ?_
    obtain ⟨c10_6, hc10_6, hF⟩ := ob_some hF
    refine en_iast (by decide +kernel : u_at kl_121 38 = some (.iastore, [])) hW ha0 rfl (by decide) hc10_6 (fun h hW => ?_)
    have hW : HW (mkw c0 c1 c2 c3 c4 c5 c6 c7 c8 c9 c10_6 c11 c12 c13) d h := hW
    refine en_segs [(39, .aload_n 0, []), (40, .dup, [])] (by decide +kernel) (y := (41, [some (.ref a0), some (.int p1), some (.int p2), some (.int p3)], [.ref a0, .ref a0], h)) rfl ?_
    refine en_get (by decide +kernel : u_at kl_121 41 = some (.getfield 41, [10, 5])) hW ha0 (by decide) rfl ?_
    refine en_segs [(44, .iconst 1, []), (45, .iadd, [])] (by decide +kernel) (y := (46, [some (.ref a0), some (.int p1), some (.int p2), some (.int p3)], [.int ((cI c10_6 5 a0) + 1), .ref a0], h)) rfl ?_
    obtain ⟨c10_7, hc10_7, hF⟩ := ob_some hF
    refine en_putI (by decide +kernel : u_at kl_121 46 = some (.putfield 41, [10, 5, 0])) hW ha0 rfl (by decide) rfl (fun h hW => ?_)
    have hW : HW (mkw c0 c1 c2 c3 c4 c5 c6 c7 c8 c9 c10_7 c11 c12 c13) d h := by rw [← Option.some.inj hc10_7]; exact hW
    obtain rfl := Option.some.inj hF
    exact j2 _ hW
def G_156 (a0 : Nat) (lab : Nat) (xs : List Int32) (ys : List Int64) (zs : List Nat) (c11 : Cl) : Option Cl := match lab, xs, ys, zs with
  | 0, [x1, x2], [], [] =>
    if x2 < 0 then
    some c11
    else
    ((if 400 ≤ (cI c11 1 a0) then
    some c11
    else
    ast c11 0 a0 400 (cI c11 1 a0) (vp_nar .byte ((x1 >>> (x2 &&& 31) : Int32).toInt8.toInt32)) >>= fun c11_5 =>
    some (sI c11_5 1 a0 ((cI c11_5 1 a0) + 1)) >>= fun c11_6 =>
    some c11_6) : Option (Cl)) >>= fun (t2 : Cl) =>
    G_156 a0 0 [x1, x2 + (-8)] [] [] t2
  | _, _, _, _ => none
partial_fixpoint
set_option maxRecDepth 100000 in
set_option maxHeartbeats 4000000 in
theorem g_156 {D : Nat} (hD : 1 ≤ D + 1) {c0 c1 c2 c3 c4 c5 c6 c7 c8 c9 c10 c12 c13 : Cl} {d : Ad} {a0 : Nat} (ha0 : aK d a0 = (0, 11, 0)) : ∀ (lab : Nat) (xs : List Int32) (ys : List Int64) (zs : List Nat) (c11 : Cl) (r : Cl), G_156 a0 lab xs ys zs c11 = some r →
    (∀ (x1 : Int32) (x2 : Int32), lab = 0 → xs = [x1, x2] → ys = [] → zs = [] → ∀ h : UH, HW (mkw c0 c1 c2 c3 c4 c5 c6 c7 c8 c9 c10 c11 c12 c13) d h → ∀ QQ : UR → Prop, (∀ h' : UH, HW (mkw c0 c1 c2 c3 c4 c5 c6 c7 c8 c9 c10 r c12 c13) d h' → QQ (none, h')) → Ends (EX D) (u_at kl_156) (3, [some (.ref a0), some (.int x1), some (.int x2)], [], h) QQ) := by
  refine G_156.partial_correctness _ (motive := fun lab xs ys zs c11 r =>
    (∀ (x1 : Int32) (x2 : Int32), lab = 0 → xs = [x1, x2] → ys = [] → zs = [] → ∀ h : UH, HW (mkw c0 c1 c2 c3 c4 c5 c6 c7 c8 c9 c10 c11 c12 c13) d h → ∀ QQ : UR → Prop, (∀ h' : UH, HW (mkw c0 c1 c2 c3 c4 c5 c6 c7 c8 c9 c10 r c12 c13) d h' → QQ (none, h')) → Ends (EX D) (u_at kl_156) (3, [some (.ref a0), some (.int x1), some (.int x2)], [], h) QQ)) ?_
  intro G ih lab xs ys zs c11 r hF
  · intro x1 x2 e1 e2 e3 e4 h hW QQ hQ
    subst e1 e2 e3 e4
    refine en_segs [(3, .iload_n 2, [])] (by decide +kernel) (y := (4, [some (.ref a0), some (.int x1), some (.int x2)], [.int x2], h)) rfl ?_
    refine en_if_lt (by decide +kernel : u_at kl_156 4 = some (.ifCond .lt 42, [46])) (fun b1 => ?_) (fun b1 => ?_)
    · replace hF := i_pos b1 hF
      obtain rfl := Option.some.inj hF
      exact en_ret (by decide +kernel : u_at kl_156 46 = some (.return_, [])) rfl (hQ _ hW)
    · replace hF := i_neg b1 hF
      refine en_segs [(7, .aload_n 0, [])] (by decide +kernel) (y := (8, [some (.ref a0), some (.int x1), some (.int x2)], [.ref a0], h)) rfl ?_
      refine en_get (by decide +kernel : u_at kl_156 8 = some (.getfield 104, [11, 1])) hW ha0 (by decide) rfl ?_
      refine en_segs [(11, .sipush 400, [])] (by decide +kernel) (y := (14, [some (.ref a0), some (.int x1), some (.int x2)], [.int 400, .int (cI c11 1 a0)], h)) rfl ?_
      obtain ⟨t2, hX, hK⟩ := ob_some hF
      have j3 : ∀ h : UH, HW (mkw c0 c1 c2 c3 c4 c5 c6 c7 c8 c9 c10 t2 c12 c13) d h → Ends (EX D) (u_at kl_156) (40, [some (.ref a0), some (.int x1), some (.int x2)], [], h) QQ := by
        intro h hW
        have hF := hK
        refine en_segs [(40, .iinc 2 (-8), []), (43, .goto (-40), [3])] (by decide +kernel) (y := (3, [some (.ref a0), some (.int x1), some (.int (x2 + (-8)))], [], h)) rfl ?_
        exact (ih _ _ _ _ _ _ hF) _ _ rfl rfl rfl rfl  _ hW _ hQ
      have hF := hX
      refine en_ic_ge (by decide +kernel : u_at kl_156 14 = some (.if_icmp .ge 26, [40])) (fun b4 => ?_) (fun b4 => ?_)
      · replace hF := i_pos b4 hF
        obtain rfl := Option.some.inj hF
        exact j3 _ hW
      · replace hF := i_neg b4 hF
        refine en_segs [(17, .aload_n 0, [])] (by decide +kernel) (y := (18, [some (.ref a0), some (.int x1), some (.int x2)], [.ref a0], h)) rfl ?_
        refine en_get (by decide +kernel : u_at kl_156 18 = some (.getfield 9, [11, 0])) hW ha0 (by decide) rfl ?_
        refine en_segs [(21, .aload_n 0, [])] (by decide +kernel) (y := (22, [some (.ref a0), some (.int x1), some (.int x2)], [.ref a0, .ref (aP d 11 0 a0)], h)) rfl ?_
        refine en_get (by decide +kernel : u_at kl_156 22 = some (.getfield 104, [11, 1])) hW ha0 (by decide) rfl ?_
        refine en_segs [(25, .iload_n 1, []), (26, .iload_n 2, []), (27, .ishr, []), (28, .i2b, [])] (by decide +kernel) (y := (29, [some (.ref a0), some (.int x1), some (.int x2)], [.int ((x1 >>> (x2 &&& 31) : Int32).toInt8.toInt32), .int (cI c11 1 a0), .ref (aP d 11 0 a0)], h)) rfl ?_
        obtain ⟨c11_5, hc11_5, hF⟩ := ob_some hF
        refine en_bast (by decide +kernel : u_at kl_156 29 = some (.bastore, [])) hW ha0 rfl (by decide) hc11_5 (fun h hW => ?_)
        have hW : HW (mkw c0 c1 c2 c3 c4 c5 c6 c7 c8 c9 c10 c11_5 c12 c13) d h := hW
        refine en_segs [(30, .aload_n 0, []), (31, .dup, [])] (by decide +kernel) (y := (32, [some (.ref a0), some (.int x1), some (.int x2)], [.ref a0, .ref a0], h)) rfl ?_
        refine en_get (by decide +kernel : u_at kl_156 32 = some (.getfield 104, [11, 1])) hW ha0 (by decide) rfl ?_
        refine en_segs [(35, .iconst 1, []), (36, .iadd, [])] (by decide +kernel) (y := (37, [some (.ref a0), some (.int x1), some (.int x2)], [.int ((cI c11_5 1 a0) + 1), .ref a0], h)) rfl ?_
        obtain ⟨c11_6, hc11_6, hF⟩ := ob_some hF
        refine en_putI (by decide +kernel : u_at kl_156 37 = some (.putfield 104, [11, 1, 0])) hW ha0 rfl (by decide) rfl (fun h hW => ?_)
        have hW : HW (mkw c0 c1 c2 c3 c4 c5 c6 c7 c8 c9 c10 c11_6 c12 c13) d h := by rw [← Option.some.inj hc11_6]; exact hW
        obtain rfl := Option.some.inj hF
        exact j3 _ hW
def F_156 (c11 : Cl) (a0 : Nat) (p1 : Int32) : Option Cl :=
  G_156 a0 0 [p1, 24] [] [] c11
set_option maxRecDepth 100000 in
set_option maxHeartbeats 4000000 in
/-- HeadCounts.putBytes -/
theorem e_156 {D : Nat} {c0 c1 c2 c3 c4 c5 c6 c7 c8 c9 c10 c11 c12 c13 : Cl} {d : Ad} {h : UH} {a0 : Nat} {p1 : Int32} {r : Cl} (hD : 1 ≤ D) (hW : HW (mkw c0 c1 c2 c3 c4 c5 c6 c7 c8 c9 c10 c11 c12 c13) d h) (ha0 : aK d a0 = (0, 11, 0)) (hF : F_156 c11 a0 p1 = some r) : ∃ q, EX D 156 [.ref a0, .int p1] h q ∧ q.1 = none ∧ HW (mkw c0 c1 c2 c3 c4 c5 c6 c7 c8 c9 c10 r c12 c13) d q.2 := by
  obtain ⟨D, rfl⟩ : ∃ E, D = E + 1 := ⟨D - 1, by omega⟩
  unfold F_156 at hF
  refine ex_in (kl := kl_156) (nL := 3) rfl (by decide +kernel) (Nat.le_of_ble_eq_true rfl) ?_
  obtain ⟨QQ, hQQ⟩ : ∃ QQ : UR → Prop, QQ = (fun q : UR => q.1 = none ∧ HW (mkw c0 c1 c2 c3 c4 c5 c6 c7 c8 c9 c10 r c12 c13) d q.2) := ⟨_, rfl⟩
  rw [← hQQ]
  have hQ : ∀ h' : UH, HW (mkw c0 c1 c2 c3 c4 c5 c6 c7 c8 c9 c10 r c12 c13) d h' → QQ (none, h') := fun h' p => by rw [hQQ]; exact ⟨rfl, p⟩
  clear hQQ
  show Ends (EX D) (u_at kl_156) (0, [some (.ref a0), some (.int p1), none], [], h) QQ
  refine en_segs [(0, .bipush 24, []), (2, .istore_n 2, [])] (by decide +kernel) (y := (3, [some (.ref a0), some (.int p1), some (.int 24)], [], h)) rfl ?_
  exact (g_156 (D := D) hD (d := d) ha0 _ _ _ _ _ _ hF) _ _ rfl rfl rfl rfl  _ hW _ hQ
def F_123 (c11 : Cl) (a0 : Nat) (p1 : Int32) (p2 : Int32) (p3 : Int32) (p4 : Int32) (p5 : Int32) : Option (Int32 × Cl) :=
  if ((cI c11 1 a0) + 20) ≤ 400 then
  F_156 c11 a0 p1 >>= fun r2 =>
  F_156 r2 a0 p2 >>= fun r3 =>
  F_156 r3 a0 p3 >>= fun r4 =>
  F_156 r4 a0 p4 >>= fun r5 =>
  F_156 r5 a0 p5 >>= fun r6 =>
  some (cI r6 1 a0, r6)
  else
  some ((-1), c11)
set_option maxRecDepth 100000 in
set_option maxHeartbeats 4000000 in
/-- HeadCounts.feed -/
theorem e_123 {D : Nat} {c0 c1 c2 c3 c4 c5 c6 c7 c8 c9 c10 c11 c12 c13 : Cl} {d : Ad} {h : UH} {a0 : Nat} {p1 : Int32} {p2 : Int32} {p3 : Int32} {p4 : Int32} {p5 : Int32} {r : (Int32 × Cl)} (hD : 2 ≤ D) (hW : HW (mkw c0 c1 c2 c3 c4 c5 c6 c7 c8 c9 c10 c11 c12 c13) d h) (ha0 : aK d a0 = (0, 11, 0)) (hF : F_123 c11 a0 p1 p2 p3 p4 p5 = some r) : ∃ q, EX D 123 [.ref a0, .int p1, .int p2, .int p3, .int p4, .int p5] h q ∧ q.1 = some (.int r.1) ∧ HW (mkw c0 c1 c2 c3 c4 c5 c6 c7 c8 c9 c10 r.2 c12 c13) d q.2 := by
  obtain ⟨D, rfl⟩ : ∃ E, D = E + 1 := ⟨D - 1, by omega⟩
  unfold F_123 at hF
  refine ex_in (kl := kl_123) (nL := 6) rfl (by decide +kernel) (Nat.le_of_ble_eq_true rfl) ?_
  obtain ⟨QQ, hQQ⟩ : ∃ QQ : UR → Prop, QQ = (fun q : UR => q.1 = some (.int r.1) ∧ HW (mkw c0 c1 c2 c3 c4 c5 c6 c7 c8 c9 c10 r.2 c12 c13) d q.2) := ⟨_, rfl⟩
  rw [← hQQ]
  have hQ : ∀ h' : UH, HW (mkw c0 c1 c2 c3 c4 c5 c6 c7 c8 c9 c10 r.2 c12 c13) d h' → QQ (some (.int r.1), h') := fun h' p => by rw [hQQ]; exact ⟨rfl, p⟩
  clear hQQ
  show Ends (EX D) (u_at kl_123) (0, [some (.ref a0), some (.int p1), some (.int p2), some (.int p3), some (.int p4), some (.int p5)], [], h) QQ
  refine en_segs [(0, .aload_n 0, [])] (by decide +kernel) (y := (1, [some (.ref a0), some (.int p1), some (.int p2), some (.int p3), some (.int p4), some (.int p5)], [.ref a0], h)) rfl ?_
  refine en_get (by decide +kernel : u_at kl_123 1 = some (.getfield 104, [11, 1])) hW ha0 (by decide) rfl ?_
  refine en_segs [(4, .bipush 20, []), (6, .iadd, []), (7, .sipush 400, [])] (by decide +kernel) (y := (10, [some (.ref a0), some (.int p1), some (.int p2), some (.int p3), some (.int p4), some (.int p5)], [.int 400, .int ((cI c11 1 a0) + 20)], h)) rfl ?_
  refine en_ic_le (by decide +kernel : u_at kl_123 10 = some (.if_icmp .le 5, [15])) (fun b1 => ?_) (fun b1 => ?_)
  · replace hF := i_pos b1 hF
    refine en_segs [(15, .aload_n 0, []), (16, .iload_n 1, [])] (by decide +kernel) (y := (17, [some (.ref a0), some (.int p1), some (.int p2), some (.int p3), some (.int p4), some (.int p5)], [.int p1, .ref a0], h)) rfl ?_
    obtain ⟨r2, hr2, hF⟩ := ob_some hF
    refine en_vv (r := []) (by decide +kernel : u_at kl_123 17 = some (.invokevirtual 108, [156, 1, 11])) hW ha0 rfl rfl (Nat.le_of_ble_eq_true rfl) (e_156 (D := D) (by omega) hW ha0 hr2) (fun h hW => ?_)
    have hW : HW (mkw c0 c1 c2 c3 c4 c5 c6 c7 c8 c9 c10 r2 c12 c13) d h := hW
    refine en_segs [(20, .aload_n 0, []), (21, .iload_n 2, [])] (by decide +kernel) (y := (22, [some (.ref a0), some (.int p1), some (.int p2), some (.int p3), some (.int p4), some (.int p5)], [.int p2, .ref a0], h)) rfl ?_
    obtain ⟨r3, hr3, hF⟩ := ob_some hF
    refine en_vv (r := []) (by decide +kernel : u_at kl_123 22 = some (.invokevirtual 108, [156, 1, 11])) hW ha0 rfl rfl (Nat.le_of_ble_eq_true rfl) (e_156 (D := D) (by omega) hW ha0 hr3) (fun h hW => ?_)
    have hW : HW (mkw c0 c1 c2 c3 c4 c5 c6 c7 c8 c9 c10 r3 c12 c13) d h := hW
    refine en_segs [(25, .aload_n 0, []), (26, .iload_n 3, [])] (by decide +kernel) (y := (27, [some (.ref a0), some (.int p1), some (.int p2), some (.int p3), some (.int p4), some (.int p5)], [.int p3, .ref a0], h)) rfl ?_
    obtain ⟨r4, hr4, hF⟩ := ob_some hF
    refine en_vv (r := []) (by decide +kernel : u_at kl_123 27 = some (.invokevirtual 108, [156, 1, 11])) hW ha0 rfl rfl (Nat.le_of_ble_eq_true rfl) (e_156 (D := D) (by omega) hW ha0 hr4) (fun h hW => ?_)
    have hW : HW (mkw c0 c1 c2 c3 c4 c5 c6 c7 c8 c9 c10 r4 c12 c13) d h := hW
    refine en_segs [(30, .aload_n 0, []), (31, .iload 4, [])] (by decide +kernel) (y := (33, [some (.ref a0), some (.int p1), some (.int p2), some (.int p3), some (.int p4), some (.int p5)], [.int p4, .ref a0], h)) rfl ?_
    obtain ⟨r5, hr5, hF⟩ := ob_some hF
    refine en_vv (r := []) (by decide +kernel : u_at kl_123 33 = some (.invokevirtual 108, [156, 1, 11])) hW ha0 rfl rfl (Nat.le_of_ble_eq_true rfl) (e_156 (D := D) (by omega) hW ha0 hr5) (fun h hW => ?_)
    have hW : HW (mkw c0 c1 c2 c3 c4 c5 c6 c7 c8 c9 c10 r5 c12 c13) d h := hW
    refine en_segs [(36, .aload_n 0, []), (37, .iload 5, [])] (by decide +kernel) (y := (39, [some (.ref a0), some (.int p1), some (.int p2), some (.int p3), some (.int p4), some (.int p5)], [.int p5, .ref a0], h)) rfl ?_
    obtain ⟨r6, hr6, hF⟩ := ob_some hF
    refine en_vv (r := []) (by decide +kernel : u_at kl_123 39 = some (.invokevirtual 108, [156, 1, 11])) hW ha0 rfl rfl (Nat.le_of_ble_eq_true rfl) (e_156 (D := D) (by omega) hW ha0 hr6) (fun h hW => ?_)
    have hW : HW (mkw c0 c1 c2 c3 c4 c5 c6 c7 c8 c9 c10 r6 c12 c13) d h := hW
    refine en_segs [(42, .aload_n 0, [])] (by decide +kernel) (y := (43, [some (.ref a0), some (.int p1), some (.int p2), some (.int p3), some (.int p4), some (.int p5)], [.ref a0], h)) rfl ?_
    refine en_get (by decide +kernel : u_at kl_123 43 = some (.getfield 104, [11, 1])) hW ha0 (by decide) rfl ?_
    obtain rfl := Option.some.inj hF
    exact en_ret (by decide +kernel : u_at kl_123 46 = some (.ireturn, [0])) rfl (hQ _ hW)
  · replace hF := i_neg b1 hF
    refine en_segs [(13, .iconst (-1), [])] (by decide +kernel) (y := (14, [some (.ref a0), some (.int p1), some (.int p2), some (.int p3), some (.int p4), some (.int p5)], [.int (-1)], h)) rfl ?_
    obtain rfl := Option.some.inj hF
    exact en_ret (by decide +kernel : u_at kl_123 14 = some (.ireturn, [0])) rfl (hQ _ hW)
def F_124 (c11 : Cl) (a0 : Nat) (p1 : Int32) : Option (Int32 × Cl) :=
  if p1 < 0 then
  some ((-1), c11)
  else
  if p1 ≤ (cI c11 1 a0) then
  some (sI c11 1 a0 p1) >>= fun c11_3 =>
  some (p1, c11_3)
  else
  some ((-1), c11)
set_option maxRecDepth 100000 in
set_option maxHeartbeats 4000000 in
/-- HeadCounts.end -/
theorem e_124 {D : Nat} {c0 c1 c2 c3 c4 c5 c6 c7 c8 c9 c10 c11 c12 c13 : Cl} {d : Ad} {h : UH} {a0 : Nat} {p1 : Int32} {r : (Int32 × Cl)} (hD : 1 ≤ D) (hW : HW (mkw c0 c1 c2 c3 c4 c5 c6 c7 c8 c9 c10 c11 c12 c13) d h) (ha0 : aK d a0 = (0, 11, 0)) (hF : F_124 c11 a0 p1 = some r) : ∃ q, EX D 124 [.ref a0, .int p1] h q ∧ q.1 = some (.int r.1) ∧ HW (mkw c0 c1 c2 c3 c4 c5 c6 c7 c8 c9 c10 r.2 c12 c13) d q.2 := by
  obtain ⟨D, rfl⟩ : ∃ E, D = E + 1 := ⟨D - 1, by omega⟩
  unfold F_124 at hF
  refine ex_in (kl := kl_124) (nL := 2) rfl (by decide +kernel) (Nat.le_of_ble_eq_true rfl) ?_
  obtain ⟨QQ, hQQ⟩ : ∃ QQ : UR → Prop, QQ = (fun q : UR => q.1 = some (.int r.1) ∧ HW (mkw c0 c1 c2 c3 c4 c5 c6 c7 c8 c9 c10 r.2 c12 c13) d q.2) := ⟨_, rfl⟩
  rw [← hQQ]
  have hQ : ∀ h' : UH, HW (mkw c0 c1 c2 c3 c4 c5 c6 c7 c8 c9 c10 r.2 c12 c13) d h' → QQ (some (.int r.1), h') := fun h' p => by rw [hQQ]; exact ⟨rfl, p⟩
  clear hQQ
  show Ends (EX D) (u_at kl_124) (0, [some (.ref a0), some (.int p1)], [], h) QQ
  refine en_segs [(0, .iload_n 1, [])] (by decide +kernel) (y := (1, [some (.ref a0), some (.int p1)], [.int p1], h)) rfl ?_
  refine en_if_lt (by decide +kernel : u_at kl_124 1 = some (.ifCond .lt 11, [12])) (fun b1 => ?_) (fun b1 => ?_)
  · replace hF := i_pos b1 hF
    refine en_segs [(12, .iconst (-1), [])] (by decide +kernel) (y := (13, [some (.ref a0), some (.int p1)], [.int (-1)], h)) rfl ?_
    obtain rfl := Option.some.inj hF
    exact en_ret (by decide +kernel : u_at kl_124 13 = some (.ireturn, [0])) rfl (hQ _ hW)
  · replace hF := i_neg b1 hF
    refine en_segs [(4, .iload_n 1, []), (5, .aload_n 0, [])] (by decide +kernel) (y := (6, [some (.ref a0), some (.int p1)], [.ref a0, .int p1], h)) rfl ?_
    refine en_get (by decide +kernel : u_at kl_124 6 = some (.getfield 104, [11, 1])) hW ha0 (by decide) rfl ?_
    refine en_ic_le (by decide +kernel : u_at kl_124 9 = some (.if_icmp .le 5, [14])) (fun b2 => ?_) (fun b2 => ?_)
    · replace hF := i_pos b2 hF
      refine en_segs [(14, .aload_n 0, []), (15, .iload_n 1, [])] (by decide +kernel) (y := (16, [some (.ref a0), some (.int p1)], [.int p1, .ref a0], h)) rfl ?_
      obtain ⟨c11_3, hc11_3, hF⟩ := ob_some hF
      refine en_putI (by decide +kernel : u_at kl_124 16 = some (.putfield 104, [11, 1, 0])) hW ha0 rfl (by decide) rfl (fun h hW => ?_)
      have hW : HW (mkw c0 c1 c2 c3 c4 c5 c6 c7 c8 c9 c10 c11_3 c12 c13) d h := by rw [← Option.some.inj hc11_3]; exact hW
      refine en_segs [(19, .iload_n 1, [])] (by decide +kernel) (y := (20, [some (.ref a0), some (.int p1)], [.int p1], h)) rfl ?_
      obtain rfl := Option.some.inj hF
      exact en_ret (by decide +kernel : u_at kl_124 20 = some (.ireturn, [0])) rfl (hQ _ hW)
    · replace hF := i_neg b2 hF
      refine en_segs [(12, .iconst (-1), [])] (by decide +kernel) (y := (13, [some (.ref a0), some (.int p1)], [.int (-1)], h)) rfl ?_
      obtain rfl := Option.some.inj hF
      exact en_ret (by decide +kernel : u_at kl_124 13 = some (.ireturn, [0])) rfl (hQ _ hW)
def F_158 (c1 : Cl) (c8 : Cl) (c10 : Cl) (c11 : Cl) (a0 : Nat) (p1 : Int32) : Option Int32 :=
  ((if p1 < 0 then
  some 0
  else
  if (cI c1 2 (cR c8 0 (cR c10 0 (cR c11 7 a0)))) ≤ p1 then
  some 0
  else
  some 1) : Option (Int32)) >>= fun (t1 : Int32) =>
  zb t1 >>= fun z3 => some z3
set_option maxRecDepth 100000 in
set_option maxHeartbeats 4000000 in
/-- HeadCounts.isHead -/
theorem e_158 {D : Nat} {c0 c1 c2 c3 c4 c5 c6 c7 c8 c9 c10 c11 c12 c13 : Cl} {d : Ad} {h : UH} {a0 : Nat} {p1 : Int32} {r : Int32} (hD : 1 ≤ D) (hW : HW (mkw c0 c1 c2 c3 c4 c5 c6 c7 c8 c9 c10 c11 c12 c13) d h) (ha0 : aK d a0 = (0, 11, 0)) (hF : F_158 c1 c8 c10 c11 a0 p1 = some r) : ∃ q, EX D 158 [.ref a0, .int p1] h q ∧ q.1 = some (.int r) ∧ h = q.2 := by
  obtain ⟨D, rfl⟩ : ∃ E, D = E + 1 := ⟨D - 1, by omega⟩
  unfold F_158 at hF
  refine ex_in (kl := kl_158) (nL := 2) rfl (by decide +kernel) (Nat.le_of_ble_eq_true rfl) ?_
  obtain ⟨QQ, hQQ⟩ : ∃ QQ : UR → Prop, QQ = (fun q : UR => q.1 = some (.int r) ∧ h = q.2) := ⟨_, rfl⟩
  rw [← hQQ]
  have hQ : QQ (some (.int r), h) := by rw [hQQ]; exact ⟨rfl, rfl⟩
  clear hQQ
  show Ends (EX D) (u_at kl_158) (0, [some (.ref a0), some (.int p1)], [], h) QQ
  refine en_segs [(0, .iload_n 1, [])] (by decide +kernel) (y := (1, [some (.ref a0), some (.int p1)], [.int p1], h)) rfl ?_
  obtain ⟨t1, hX, hK⟩ := ob_some hF
  have j2 : Ends (EX D) (u_at kl_158) (26, [some (.ref a0), some (.int p1)], [.int t1], h) QQ := by
    have hF := hK
    obtain ⟨z3, hz3, hF⟩ := ob_some hF
    obtain rfl := Option.some.inj hF
    exact en_retZ (by decide +kernel : u_at kl_158 26 = some (.ireturn, [1])) hz3 (hQ)
  have hF := hX
  refine en_if_lt (by decide +kernel : u_at kl_158 1 = some (.ifCond .lt 24, [25])) (fun b4 => ?_) (fun b4 => ?_)
  · replace hF := i_pos b4 hF
    refine en_segs [(25, .iconst 0, [])] (by decide +kernel) (y := (26, [some (.ref a0), some (.int p1)], [.int 0], h)) rfl ?_
    obtain rfl := Option.some.inj hF
    exact j2
  · replace hF := i_neg b4 hF
    refine en_segs [(4, .iload_n 1, []), (5, .aload_n 0, [])] (by decide +kernel) (y := (6, [some (.ref a0), some (.int p1)], [.ref a0, .int p1], h)) rfl ?_
    have k5 : aK d (cR c11 7 a0) = (0, 10, 0) := wf_obj hW ha0 (by decide) rfl
    refine en_get (by decide +kernel : u_at kl_158 6 = some (.getfield 52, [11, 7])) hW ha0 (by decide) rfl ?_
    have k6 : aK d (cR c10 0 (cR c11 7 a0)) = (0, 8, 0) := wf_obj hW k5 (by decide) rfl
    refine en_get (by decide +kernel : u_at kl_158 9 = some (.getfield 62, [10, 0])) hW k5 (by decide) rfl ?_
    have k7 : aK d (cR c8 0 (cR c10 0 (cR c11 7 a0))) = (0, 1, 0) := wf_obj hW k6 (by decide) rfl
    refine en_get (by decide +kernel : u_at kl_158 12 = some (.getfield 66, [8, 0])) hW k6 (by decide) rfl ?_
    refine en_get (by decide +kernel : u_at kl_158 15 = some (.getfield 126, [1, 2])) hW k7 (by decide) rfl ?_
    refine en_ic_ge (by decide +kernel : u_at kl_158 18 = some (.if_icmp .ge 7, [25])) (fun b8 => ?_) (fun b8 => ?_)
    · replace hF := i_pos b8 hF
      refine en_segs [(25, .iconst 0, [])] (by decide +kernel) (y := (26, [some (.ref a0), some (.int p1)], [.int 0], h)) rfl ?_
      obtain rfl := Option.some.inj hF
      exact j2
    · replace hF := i_neg b8 hF
      refine en_segs [(21, .iconst 1, []), (22, .goto 4, [26])] (by decide +kernel) (y := (26, [some (.ref a0), some (.int p1)], [.int 1], h)) rfl ?_
      obtain rfl := Option.some.inj hF
      exact j2
def F_127 (c1 : Cl) (c8 : Cl) (c10 : Cl) (c11 : Cl) (a0 : Nat) (p1 : Int32) (p2 : Int32) : Option Int32 :=
  F_158 c1 c8 c10 c11 a0 p1 >>= fun r1 =>
  if r1 = 0 then
  some (-1)
  else
  if p2 = 0 then
  ald (cA c8 4 (cR c10 0 (cR c11 7 a0))) 6 p1 >>= fun v6 =>
  some v6
  else
  if p2 = 1 then
  ald (cA c1 8 (cR c8 0 (cR c10 0 (cR c11 7 a0)))) 6 p1 >>= fun v9 =>
  some v9
  else
  if p2 = 2 then
  ald (cA c1 7 (cR c8 0 (cR c10 0 (cR c11 7 a0)))) 6 p1 >>= fun v12 =>
  some v12
  else
  if p2 = 3 then
  ald (cA c8 5 (cR c10 0 (cR c11 7 a0))) 6 p1 >>= fun v14 =>
  some v14
  else
  if p2 = 4 then
  ald (cA c8 6 (cR c10 0 (cR c11 7 a0))) 6 p1 >>= fun v16 =>
  some v16
  else
  if p2 = 5 then
  F_83 c8 (cR c10 0 (cR c11 7 a0)) p1 >>= fun r18 =>
  ((if r18 = 0 then
  F_84 c8 (cR c10 0 (cR c11 7 a0)) p1 >>= fun r22 =>
  if r22 = 0 then
  some 2
  else
  some 1
  else
  some 0) : Option (Int32)) >>= fun (t19 : Int32) =>
  some t19
  else
  some (-1)
set_option maxRecDepth 100000 in
set_option maxHeartbeats 4000000 in
/-- HeadCounts.head -/
theorem e_127 {D : Nat} {c0 c1 c2 c3 c4 c5 c6 c7 c8 c9 c10 c11 c12 c13 : Cl} {d : Ad} {h : UH} {a0 : Nat} {p1 : Int32} {p2 : Int32} {r : Int32} (hD : 2 ≤ D) (hW : HW (mkw c0 c1 c2 c3 c4 c5 c6 c7 c8 c9 c10 c11 c12 c13) d h) (ha0 : aK d a0 = (0, 11, 0)) (hF : F_127 c1 c8 c10 c11 a0 p1 p2 = some r) : ∃ q, EX D 127 [.ref a0, .int p1, .int p2] h q ∧ q.1 = some (.int r) ∧ h = q.2 := by
  obtain ⟨D, rfl⟩ : ∃ E, D = E + 1 := ⟨D - 1, by omega⟩
  unfold F_127 at hF
  refine ex_in (kl := kl_127) (nL := 4) rfl (by decide +kernel) (Nat.le_of_ble_eq_true rfl) ?_
  obtain ⟨QQ, hQQ⟩ : ∃ QQ : UR → Prop, QQ = (fun q : UR => q.1 = some (.int r) ∧ h = q.2) := ⟨_, rfl⟩
  rw [← hQQ]
  have hQ : QQ (some (.int r), h) := by rw [hQQ]; exact ⟨rfl, rfl⟩
  clear hQQ
  show Ends (EX D) (u_at kl_127) (0, [some (.ref a0), some (.int p1), some (.int p2), none], [], h) QQ
  refine en_segs [(0, .aload_n 0, []), (1, .iload_n 1, [])] (by decide +kernel) (y := (2, [some (.ref a0), some (.int p1), some (.int p2), none], [.int p1, .ref a0], h)) rfl ?_
  obtain ⟨r1, hr1, hF⟩ := ob_some hF
  refine en_vi (r := []) (by decide +kernel : u_at kl_127 2 = some (.invokevirtual 135, [158, 1, 11])) hW ha0 rfl rfl (Nat.le_of_ble_eq_true rfl) (e_158 (D := D) (by omega) hW ha0 hr1) (fun h' q => ?_)
  subst q
  refine en_if_ne (by decide +kernel : u_at kl_127 5 = some (.ifCond .ne 5, [10])) (fun b2 => ?_) (fun b2 => ?_)
  · replace hF := i_pos b2 hF
    refine en_segs [(8, .iconst (-1), [])] (by decide +kernel) (y := (9, [some (.ref a0), some (.int p1), some (.int p2), none], [.int (-1)], h)) rfl ?_
    obtain rfl := Option.some.inj hF
    exact en_ret (by decide +kernel : u_at kl_127 9 = some (.ireturn, [0])) rfl (hQ)
  · replace hF := i_neg b2 hF
    refine en_segs [(10, .aload_n 0, [])] (by decide +kernel) (y := (11, [some (.ref a0), some (.int p1), some (.int p2), none], [.ref a0], h)) rfl ?_
    have k3 : aK d (cR c11 7 a0) = (0, 10, 0) := wf_obj hW ha0 (by decide) rfl
    refine en_get (by decide +kernel : u_at kl_127 11 = some (.getfield 52, [11, 7])) hW ha0 (by decide) rfl ?_
    have k4 : aK d (cR c10 0 (cR c11 7 a0)) = (0, 8, 0) := wf_obj hW k3 (by decide) rfl
    refine en_get (by decide +kernel : u_at kl_127 14 = some (.getfield 62, [10, 0])) hW k3 (by decide) rfl ?_
    refine en_segs [(17, .astore_n 3, []), (18, .iload_n 2, [])] (by decide +kernel) (y := (19, [some (.ref a0), some (.int p1), some (.int p2), some (.ref (cR c10 0 (cR c11 7 a0)))], [.int p2], h)) rfl ?_
    by_cases b5 : p2 = 0
    · replace hF := i_pos b5 hF
      refine en_tsC (by decide +kernel : u_at kl_127 19 = some (.tableswitch 104 0 5 #[37, 44, 54, 64, 71, 78], [123, 56, 63, 73, 83, 90, 97])) (by rw [b5]; decide) (u := 56) (by rw [b5]; rfl) ?_
      refine en_segs [(56, .aload_n 3, [])] (by decide +kernel) (y := (57, [some (.ref a0), some (.int p1), some (.int p2), some (.ref (cR c10 0 (cR c11 7 a0)))], [.ref (cR c10 0 (cR c11 7 a0))], h)) rfl ?_
      refine en_get (by decide +kernel : u_at kl_127 57 = some (.getfield 139, [8, 4])) hW k4 (by decide) rfl ?_
      refine en_segs [(60, .iload_n 1, [])] (by decide +kernel) (y := (61, [some (.ref a0), some (.int p1), some (.int p2), some (.ref (cR c10 0 (cR c11 7 a0)))], [.int p1, .ref (aP d 8 4 (cR c10 0 (cR c11 7 a0)))], h)) rfl ?_
      obtain ⟨v6, hv6, hF⟩ := ob_some hF
      refine en_iald (by decide +kernel : u_at kl_127 61 = some (.iaload, [])) hW k4 rfl (by decide) hv6 ?_
      obtain rfl := Option.some.inj hF
      exact en_ret (by decide +kernel : u_at kl_127 62 = some (.ireturn, [0])) rfl (hQ)
    · replace hF := i_neg b5 hF
      by_cases b7 : p2 = 1
      · replace hF := i_pos b7 hF
        refine en_tsC (by decide +kernel : u_at kl_127 19 = some (.tableswitch 104 0 5 #[37, 44, 54, 64, 71, 78], [123, 56, 63, 73, 83, 90, 97])) (by rw [b7]; decide) (u := 63) (by rw [b7]; rfl) ?_
        refine en_segs [(63, .aload_n 3, [])] (by decide +kernel) (y := (64, [some (.ref a0), some (.int p1), some (.int p2), some (.ref (cR c10 0 (cR c11 7 a0)))], [.ref (cR c10 0 (cR c11 7 a0))], h)) rfl ?_
        have k8 : aK d (cR c8 0 (cR c10 0 (cR c11 7 a0))) = (0, 1, 0) := wf_obj hW k4 (by decide) rfl
        refine en_get (by decide +kernel : u_at kl_127 64 = some (.getfield 66, [8, 0])) hW k4 (by decide) rfl ?_
        refine en_get (by decide +kernel : u_at kl_127 67 = some (.getfield 143, [1, 8])) hW k8 (by decide) rfl ?_
        refine en_segs [(70, .iload_n 1, [])] (by decide +kernel) (y := (71, [some (.ref a0), some (.int p1), some (.int p2), some (.ref (cR c10 0 (cR c11 7 a0)))], [.int p1, .ref (aP d 1 8 (cR c8 0 (cR c10 0 (cR c11 7 a0))))], h)) rfl ?_
        obtain ⟨v9, hv9, hF⟩ := ob_some hF
        refine en_iald (by decide +kernel : u_at kl_127 71 = some (.iaload, [])) hW k8 rfl (by decide) hv9 ?_
        obtain rfl := Option.some.inj hF
        exact en_ret (by decide +kernel : u_at kl_127 72 = some (.ireturn, [0])) rfl (hQ)
      · replace hF := i_neg b7 hF
        by_cases b10 : p2 = 2
        · replace hF := i_pos b10 hF
          refine en_tsC (by decide +kernel : u_at kl_127 19 = some (.tableswitch 104 0 5 #[37, 44, 54, 64, 71, 78], [123, 56, 63, 73, 83, 90, 97])) (by rw [b10]; decide) (u := 73) (by rw [b10]; rfl) ?_
          refine en_segs [(73, .aload_n 3, [])] (by decide +kernel) (y := (74, [some (.ref a0), some (.int p1), some (.int p2), some (.ref (cR c10 0 (cR c11 7 a0)))], [.ref (cR c10 0 (cR c11 7 a0))], h)) rfl ?_
          have k11 : aK d (cR c8 0 (cR c10 0 (cR c11 7 a0))) = (0, 1, 0) := wf_obj hW k4 (by decide) rfl
          refine en_get (by decide +kernel : u_at kl_127 74 = some (.getfield 66, [8, 0])) hW k4 (by decide) rfl ?_
          refine en_get (by decide +kernel : u_at kl_127 77 = some (.getfield 146, [1, 7])) hW k11 (by decide) rfl ?_
          refine en_segs [(80, .iload_n 1, [])] (by decide +kernel) (y := (81, [some (.ref a0), some (.int p1), some (.int p2), some (.ref (cR c10 0 (cR c11 7 a0)))], [.int p1, .ref (aP d 1 7 (cR c8 0 (cR c10 0 (cR c11 7 a0))))], h)) rfl ?_
          obtain ⟨v12, hv12, hF⟩ := ob_some hF
          refine en_iald (by decide +kernel : u_at kl_127 81 = some (.iaload, [])) hW k11 rfl (by decide) hv12 ?_
          obtain rfl := Option.some.inj hF
          exact en_ret (by decide +kernel : u_at kl_127 82 = some (.ireturn, [0])) rfl (hQ)
        · replace hF := i_neg b10 hF
          by_cases b13 : p2 = 3
          · replace hF := i_pos b13 hF
            refine en_tsC (by decide +kernel : u_at kl_127 19 = some (.tableswitch 104 0 5 #[37, 44, 54, 64, 71, 78], [123, 56, 63, 73, 83, 90, 97])) (by rw [b13]; decide) (u := 83) (by rw [b13]; rfl) ?_
            refine en_segs [(83, .aload_n 3, [])] (by decide +kernel) (y := (84, [some (.ref a0), some (.int p1), some (.int p2), some (.ref (cR c10 0 (cR c11 7 a0)))], [.ref (cR c10 0 (cR c11 7 a0))], h)) rfl ?_
            refine en_get (by decide +kernel : u_at kl_127 84 = some (.getfield 149, [8, 5])) hW k4 (by decide) rfl ?_
            refine en_segs [(87, .iload_n 1, [])] (by decide +kernel) (y := (88, [some (.ref a0), some (.int p1), some (.int p2), some (.ref (cR c10 0 (cR c11 7 a0)))], [.int p1, .ref (aP d 8 5 (cR c10 0 (cR c11 7 a0)))], h)) rfl ?_
            obtain ⟨v14, hv14, hF⟩ := ob_some hF
            refine en_iald (by decide +kernel : u_at kl_127 88 = some (.iaload, [])) hW k4 rfl (by decide) hv14 ?_
            obtain rfl := Option.some.inj hF
            exact en_ret (by decide +kernel : u_at kl_127 89 = some (.ireturn, [0])) rfl (hQ)
          · replace hF := i_neg b13 hF
            by_cases b15 : p2 = 4
            · replace hF := i_pos b15 hF
              refine en_tsC (by decide +kernel : u_at kl_127 19 = some (.tableswitch 104 0 5 #[37, 44, 54, 64, 71, 78], [123, 56, 63, 73, 83, 90, 97])) (by rw [b15]; decide) (u := 90) (by rw [b15]; rfl) ?_
              refine en_segs [(90, .aload_n 3, [])] (by decide +kernel) (y := (91, [some (.ref a0), some (.int p1), some (.int p2), some (.ref (cR c10 0 (cR c11 7 a0)))], [.ref (cR c10 0 (cR c11 7 a0))], h)) rfl ?_
              refine en_get (by decide +kernel : u_at kl_127 91 = some (.getfield 152, [8, 6])) hW k4 (by decide) rfl ?_
              refine en_segs [(94, .iload_n 1, [])] (by decide +kernel) (y := (95, [some (.ref a0), some (.int p1), some (.int p2), some (.ref (cR c10 0 (cR c11 7 a0)))], [.int p1, .ref (aP d 8 6 (cR c10 0 (cR c11 7 a0)))], h)) rfl ?_
              obtain ⟨v16, hv16, hF⟩ := ob_some hF
              refine en_iald (by decide +kernel : u_at kl_127 95 = some (.iaload, [])) hW k4 rfl (by decide) hv16 ?_
              obtain rfl := Option.some.inj hF
              exact en_ret (by decide +kernel : u_at kl_127 96 = some (.ireturn, [0])) rfl (hQ)
            · replace hF := i_neg b15 hF
              by_cases b17 : p2 = 5
              · replace hF := i_pos b17 hF
                refine en_tsC (by decide +kernel : u_at kl_127 19 = some (.tableswitch 104 0 5 #[37, 44, 54, 64, 71, 78], [123, 56, 63, 73, 83, 90, 97])) (by rw [b17]; decide) (u := 97) (by rw [b17]; rfl) ?_
                refine en_segs [(97, .aload_n 3, []), (98, .iload_n 1, [])] (by decide +kernel) (y := (99, [some (.ref a0), some (.int p1), some (.int p2), some (.ref (cR c10 0 (cR c11 7 a0)))], [.int p1, .ref (cR c10 0 (cR c11 7 a0))], h)) rfl ?_
                obtain ⟨r18, hr18, hF⟩ := ob_some hF
                refine en_vi (r := []) (by decide +kernel : u_at kl_127 99 = some (.invokevirtual 155, [83, 1, 8])) hW k4 rfl rfl (Nat.le_of_ble_eq_true rfl) (e_83 (D := D) (by omega) hW k4 hr18) (fun h' q => ?_)
                subst q
                obtain ⟨t19, hX, hK⟩ := ob_some hF
                have j20 : Ends (EX D) (u_at kl_127) (122, [some (.ref a0), some (.int p1), some (.int p2), some (.ref (cR c10 0 (cR c11 7 a0)))], [.int t19], h) QQ := by
                  have hF := hK
                  obtain rfl := Option.some.inj hF
                  exact en_ret (by decide +kernel : u_at kl_127 122 = some (.ireturn, [0])) rfl (hQ)
                have hF := hX
                refine en_if_eq (by decide +kernel : u_at kl_127 102 = some (.ifCond .eq 7, [109])) (fun b21 => ?_) (fun b21 => ?_)
                · replace hF := i_pos b21 hF
                  refine en_segs [(109, .aload_n 3, []), (110, .iload_n 1, [])] (by decide +kernel) (y := (111, [some (.ref a0), some (.int p1), some (.int p2), some (.ref (cR c10 0 (cR c11 7 a0)))], [.int p1, .ref (cR c10 0 (cR c11 7 a0))], h)) rfl ?_
                  obtain ⟨r22, hr22, hF⟩ := ob_some hF
                  refine en_vi (r := []) (by decide +kernel : u_at kl_127 111 = some (.invokevirtual 158, [84, 1, 8])) hW k4 rfl rfl (Nat.le_of_ble_eq_true rfl) (e_84 (D := D) (by omega) hW k4 hr22) (fun h' q => ?_)
                  subst q
                  refine en_if_eq (by decide +kernel : u_at kl_127 114 = some (.ifCond .eq 7, [121])) (fun b23 => ?_) (fun b23 => ?_)
                  · replace hF := i_pos b23 hF
                    refine en_segs [(121, .iconst 2, [])] (by decide +kernel) (y := (122, [some (.ref a0), some (.int p1), some (.int p2), some (.ref (cR c10 0 (cR c11 7 a0)))], [.int 2], h)) rfl ?_
                    obtain rfl := Option.some.inj hF
                    exact j20
                  · replace hF := i_neg b23 hF
                    refine en_segs [(117, .iconst 1, []), (118, .goto 4, [122])] (by decide +kernel) (y := (122, [some (.ref a0), some (.int p1), some (.int p2), some (.ref (cR c10 0 (cR c11 7 a0)))], [.int 1], h)) rfl ?_
                    obtain rfl := Option.some.inj hF
                    exact j20
                · replace hF := i_neg b21 hF
                  refine en_segs [(105, .iconst 0, []), (106, .goto 16, [122])] (by decide +kernel) (y := (122, [some (.ref a0), some (.int p1), some (.int p2), some (.ref (cR c10 0 (cR c11 7 a0)))], [.int 0], h)) rfl ?_
                  obtain rfl := Option.some.inj hF
                  exact j20
              · replace hF := i_neg b17 hF
                have wb5 : (p2 : Int32).toInt ≠ 0 := ti_ne b5
                have wb7 : (p2 : Int32).toInt ≠ 1 := ti_ne b7
                have wb10 : (p2 : Int32).toInt ≠ 2 := ti_ne b10
                have wb13 : (p2 : Int32).toInt ≠ 3 := ti_ne b13
                have wb15 : (p2 : Int32).toInt ≠ 4 := ti_ne b15
                have wb17 : (p2 : Int32).toInt ≠ 5 := ti_ne b17
                refine en_tsO (by decide +kernel : u_at kl_127 19 = some (.tableswitch 104 0 5 #[37, 44, 54, 64, 71, 78], [123, 56, 63, 73, 83, 90, 97])) (by omega) ?_
                refine en_segs [(123, .iconst (-1), [])] (by decide +kernel) (y := (124, [some (.ref a0), some (.int p1), some (.int p2), some (.ref (cR c10 0 (cR c11 7 a0)))], [.int (-1)], h)) rfl ?_
                obtain rfl := Option.some.inj hF
                exact en_ret (by decide +kernel : u_at kl_127 124 = some (.ireturn, [0])) rfl (hQ)
def F_160 (c1 : Cl) (c8 : Cl) (c10 : Cl) (c11 : Cl) (a0 : Nat) (p1 : Int32) : Option Int32 :=
  ((if p1 < 0 then
  some 0
  else
  if (cI c1 0 (cR c8 0 (cR c10 0 (cR c11 7 a0)))) ≤ p1 then
  some 0
  else
  some 1) : Option (Int32)) >>= fun (t1 : Int32) =>
  zb t1 >>= fun z3 => some z3
set_option maxRecDepth 100000 in
set_option maxHeartbeats 4000000 in
/-- HeadCounts.isRoom -/
theorem e_160 {D : Nat} {c0 c1 c2 c3 c4 c5 c6 c7 c8 c9 c10 c11 c12 c13 : Cl} {d : Ad} {h : UH} {a0 : Nat} {p1 : Int32} {r : Int32} (hD : 1 ≤ D) (hW : HW (mkw c0 c1 c2 c3 c4 c5 c6 c7 c8 c9 c10 c11 c12 c13) d h) (ha0 : aK d a0 = (0, 11, 0)) (hF : F_160 c1 c8 c10 c11 a0 p1 = some r) : ∃ q, EX D 160 [.ref a0, .int p1] h q ∧ q.1 = some (.int r) ∧ h = q.2 := by
  obtain ⟨D, rfl⟩ : ∃ E, D = E + 1 := ⟨D - 1, by omega⟩
  unfold F_160 at hF
  refine ex_in (kl := kl_160) (nL := 2) rfl (by decide +kernel) (Nat.le_of_ble_eq_true rfl) ?_
  obtain ⟨QQ, hQQ⟩ : ∃ QQ : UR → Prop, QQ = (fun q : UR => q.1 = some (.int r) ∧ h = q.2) := ⟨_, rfl⟩
  rw [← hQQ]
  have hQ : QQ (some (.int r), h) := by rw [hQQ]; exact ⟨rfl, rfl⟩
  clear hQQ
  show Ends (EX D) (u_at kl_160) (0, [some (.ref a0), some (.int p1)], [], h) QQ
  refine en_segs [(0, .iload_n 1, [])] (by decide +kernel) (y := (1, [some (.ref a0), some (.int p1)], [.int p1], h)) rfl ?_
  obtain ⟨t1, hX, hK⟩ := ob_some hF
  have j2 : Ends (EX D) (u_at kl_160) (26, [some (.ref a0), some (.int p1)], [.int t1], h) QQ := by
    have hF := hK
    obtain ⟨z3, hz3, hF⟩ := ob_some hF
    obtain rfl := Option.some.inj hF
    exact en_retZ (by decide +kernel : u_at kl_160 26 = some (.ireturn, [1])) hz3 (hQ)
  have hF := hX
  refine en_if_lt (by decide +kernel : u_at kl_160 1 = some (.ifCond .lt 24, [25])) (fun b4 => ?_) (fun b4 => ?_)
  · replace hF := i_pos b4 hF
    refine en_segs [(25, .iconst 0, [])] (by decide +kernel) (y := (26, [some (.ref a0), some (.int p1)], [.int 0], h)) rfl ?_
    obtain rfl := Option.some.inj hF
    exact j2
  · replace hF := i_neg b4 hF
    refine en_segs [(4, .iload_n 1, []), (5, .aload_n 0, [])] (by decide +kernel) (y := (6, [some (.ref a0), some (.int p1)], [.ref a0, .int p1], h)) rfl ?_
    have k5 : aK d (cR c11 7 a0) = (0, 10, 0) := wf_obj hW ha0 (by decide) rfl
    refine en_get (by decide +kernel : u_at kl_160 6 = some (.getfield 52, [11, 7])) hW ha0 (by decide) rfl ?_
    have k6 : aK d (cR c10 0 (cR c11 7 a0)) = (0, 8, 0) := wf_obj hW k5 (by decide) rfl
    refine en_get (by decide +kernel : u_at kl_160 9 = some (.getfield 62, [10, 0])) hW k5 (by decide) rfl ?_
    have k7 : aK d (cR c8 0 (cR c10 0 (cR c11 7 a0))) = (0, 1, 0) := wf_obj hW k6 (by decide) rfl
    refine en_get (by decide +kernel : u_at kl_160 12 = some (.getfield 66, [8, 0])) hW k6 (by decide) rfl ?_
    refine en_get (by decide +kernel : u_at kl_160 15 = some (.getfield 288, [1, 0])) hW k7 (by decide) rfl ?_
    refine en_ic_ge (by decide +kernel : u_at kl_160 18 = some (.if_icmp .ge 7, [25])) (fun b8 => ?_) (fun b8 => ?_)
    · replace hF := i_pos b8 hF
      refine en_segs [(25, .iconst 0, [])] (by decide +kernel) (y := (26, [some (.ref a0), some (.int p1)], [.int 0], h)) rfl ?_
      obtain rfl := Option.some.inj hF
      exact j2
    · replace hF := i_neg b8 hF
      refine en_segs [(21, .iconst 1, []), (22, .goto 4, [26])] (by decide +kernel) (y := (26, [some (.ref a0), some (.int p1)], [.int 1], h)) rfl ?_
      obtain rfl := Option.some.inj hF
      exact j2
def F_128 (c1 : Cl) (c8 : Cl) (c10 : Cl) (c11 : Cl) (a0 : Nat) (p1 : Int32) (p2 : Int32) : Option Int32 :=
  F_160 c1 c8 c10 c11 a0 p1 >>= fun r1 =>
  if r1 = 0 then
  some (-1)
  else
  if p2 = 0 then
  ald (cA c8 11 (cR c10 0 (cR c11 7 a0))) 6 p1 >>= fun v6 =>
  some v6
  else
  if p2 = 1 then
  F_96 c1 c8 (cR c10 0 (cR c11 7 a0)) p1 >>= fun r8 =>
  some r8
  else
  if p2 = 2 then
  F_98 c1 c8 (cR c10 0 (cR c11 7 a0)) p1 >>= fun r10 =>
  some r10
  else
  if p2 = 3 then
  ald (cA c1 10 (cR c8 0 (cR c10 0 (cR c11 7 a0)))) 6 p1 >>= fun v13 =>
  some v13
  else
  if p2 = 4 then
  ald (cA c1 9 (cR c8 0 (cR c10 0 (cR c11 7 a0)))) 6 p1 >>= fun v16 =>
  some v16
  else
  if p2 = 5 then
  ald (cA c8 12 (cR c10 0 (cR c11 7 a0))) 6 p1 >>= fun v18 =>
  some v18
  else
  some (-1)
set_option maxRecDepth 100000 in
set_option maxHeartbeats 4000000 in
/-- HeadCounts.room -/
theorem e_128 {D : Nat} {c0 c1 c2 c3 c4 c5 c6 c7 c8 c9 c10 c11 c12 c13 : Cl} {d : Ad} {h : UH} {a0 : Nat} {p1 : Int32} {p2 : Int32} {r : Int32} (hD : 3 ≤ D) (hW : HW (mkw c0 c1 c2 c3 c4 c5 c6 c7 c8 c9 c10 c11 c12 c13) d h) (ha0 : aK d a0 = (0, 11, 0)) (hF : F_128 c1 c8 c10 c11 a0 p1 p2 = some r) : ∃ q, EX D 128 [.ref a0, .int p1, .int p2] h q ∧ q.1 = some (.int r) ∧ h = q.2 := by
  obtain ⟨D, rfl⟩ : ∃ E, D = E + 1 := ⟨D - 1, by omega⟩
  unfold F_128 at hF
  refine ex_in (kl := kl_128) (nL := 4) rfl (by decide +kernel) (Nat.le_of_ble_eq_true rfl) ?_
  obtain ⟨QQ, hQQ⟩ : ∃ QQ : UR → Prop, QQ = (fun q : UR => q.1 = some (.int r) ∧ h = q.2) := ⟨_, rfl⟩
  rw [← hQQ]
  have hQ : QQ (some (.int r), h) := by rw [hQQ]; exact ⟨rfl, rfl⟩
  clear hQQ
  show Ends (EX D) (u_at kl_128) (0, [some (.ref a0), some (.int p1), some (.int p2), none], [], h) QQ
  refine en_segs [(0, .aload_n 0, []), (1, .iload_n 1, [])] (by decide +kernel) (y := (2, [some (.ref a0), some (.int p1), some (.int p2), none], [.int p1, .ref a0], h)) rfl ?_
  obtain ⟨r1, hr1, hF⟩ := ob_some hF
  refine en_vi (r := []) (by decide +kernel : u_at kl_128 2 = some (.invokevirtual 161, [160, 1, 11])) hW ha0 rfl rfl (Nat.le_of_ble_eq_true rfl) (e_160 (D := D) (by omega) hW ha0 hr1) (fun h' q => ?_)
  subst q
  refine en_if_ne (by decide +kernel : u_at kl_128 5 = some (.ifCond .ne 5, [10])) (fun b2 => ?_) (fun b2 => ?_)
  · replace hF := i_pos b2 hF
    refine en_segs [(8, .iconst (-1), [])] (by decide +kernel) (y := (9, [some (.ref a0), some (.int p1), some (.int p2), none], [.int (-1)], h)) rfl ?_
    obtain rfl := Option.some.inj hF
    exact en_ret (by decide +kernel : u_at kl_128 9 = some (.ireturn, [0])) rfl (hQ)
  · replace hF := i_neg b2 hF
    refine en_segs [(10, .aload_n 0, [])] (by decide +kernel) (y := (11, [some (.ref a0), some (.int p1), some (.int p2), none], [.ref a0], h)) rfl ?_
    have k3 : aK d (cR c11 7 a0) = (0, 10, 0) := wf_obj hW ha0 (by decide) rfl
    refine en_get (by decide +kernel : u_at kl_128 11 = some (.getfield 52, [11, 7])) hW ha0 (by decide) rfl ?_
    have k4 : aK d (cR c10 0 (cR c11 7 a0)) = (0, 8, 0) := wf_obj hW k3 (by decide) rfl
    refine en_get (by decide +kernel : u_at kl_128 14 = some (.getfield 62, [10, 0])) hW k3 (by decide) rfl ?_
    refine en_segs [(17, .astore_n 3, []), (18, .iload_n 2, [])] (by decide +kernel) (y := (19, [some (.ref a0), some (.int p1), some (.int p2), some (.ref (cR c10 0 (cR c11 7 a0)))], [.int p2], h)) rfl ?_
    by_cases b5 : p2 = 0
    · replace hF := i_pos b5 hF
      refine en_tsC (by decide +kernel : u_at kl_128 19 = some (.tableswitch 83 0 5 #[37, 44, 50, 56, 66, 76], [102, 56, 63, 69, 75, 85, 95])) (by rw [b5]; decide) (u := 56) (by rw [b5]; rfl) ?_
      refine en_segs [(56, .aload_n 3, [])] (by decide +kernel) (y := (57, [some (.ref a0), some (.int p1), some (.int p2), some (.ref (cR c10 0 (cR c11 7 a0)))], [.ref (cR c10 0 (cR c11 7 a0))], h)) rfl ?_
      refine en_get (by decide +kernel : u_at kl_128 57 = some (.getfield 164, [8, 11])) hW k4 (by decide) rfl ?_
      refine en_segs [(60, .iload_n 1, [])] (by decide +kernel) (y := (61, [some (.ref a0), some (.int p1), some (.int p2), some (.ref (cR c10 0 (cR c11 7 a0)))], [.int p1, .ref (aP d 8 11 (cR c10 0 (cR c11 7 a0)))], h)) rfl ?_
      obtain ⟨v6, hv6, hF⟩ := ob_some hF
      refine en_iald (by decide +kernel : u_at kl_128 61 = some (.iaload, [])) hW k4 rfl (by decide) hv6 ?_
      obtain rfl := Option.some.inj hF
      exact en_ret (by decide +kernel : u_at kl_128 62 = some (.ireturn, [0])) rfl (hQ)
    · replace hF := i_neg b5 hF
      by_cases b7 : p2 = 1
      · replace hF := i_pos b7 hF
        refine en_tsC (by decide +kernel : u_at kl_128 19 = some (.tableswitch 83 0 5 #[37, 44, 50, 56, 66, 76], [102, 56, 63, 69, 75, 85, 95])) (by rw [b7]; decide) (u := 63) (by rw [b7]; rfl) ?_
        refine en_segs [(63, .aload_n 3, []), (64, .iload_n 1, [])] (by decide +kernel) (y := (65, [some (.ref a0), some (.int p1), some (.int p2), some (.ref (cR c10 0 (cR c11 7 a0)))], [.int p1, .ref (cR c10 0 (cR c11 7 a0))], h)) rfl ?_
        obtain ⟨r8, hr8, hF⟩ := ob_some hF
        refine en_vi (r := []) (by decide +kernel : u_at kl_128 65 = some (.invokevirtual 167, [96, 1, 8])) hW k4 rfl rfl (Nat.le_of_ble_eq_true rfl) (e_96 (D := D) (by omega) hW k4 hr8) (fun h' q => ?_)
        subst q
        obtain rfl := Option.some.inj hF
        exact en_ret (by decide +kernel : u_at kl_128 68 = some (.ireturn, [0])) rfl (hQ)
      · replace hF := i_neg b7 hF
        by_cases b9 : p2 = 2
        · replace hF := i_pos b9 hF
          refine en_tsC (by decide +kernel : u_at kl_128 19 = some (.tableswitch 83 0 5 #[37, 44, 50, 56, 66, 76], [102, 56, 63, 69, 75, 85, 95])) (by rw [b9]; decide) (u := 69) (by rw [b9]; rfl) ?_
          refine en_segs [(69, .aload_n 3, []), (70, .iload_n 1, [])] (by decide +kernel) (y := (71, [some (.ref a0), some (.int p1), some (.int p2), some (.ref (cR c10 0 (cR c11 7 a0)))], [.int p1, .ref (cR c10 0 (cR c11 7 a0))], h)) rfl ?_
          obtain ⟨r10, hr10, hF⟩ := ob_some hF
          refine en_vi (r := []) (by decide +kernel : u_at kl_128 71 = some (.invokevirtual 171, [98, 1, 8])) hW k4 rfl rfl (Nat.le_of_ble_eq_true rfl) (e_98 (D := D) (by omega) hW k4 hr10) (fun h' q => ?_)
          subst q
          obtain rfl := Option.some.inj hF
          exact en_ret (by decide +kernel : u_at kl_128 74 = some (.ireturn, [0])) rfl (hQ)
        · replace hF := i_neg b9 hF
          by_cases b11 : p2 = 3
          · replace hF := i_pos b11 hF
            refine en_tsC (by decide +kernel : u_at kl_128 19 = some (.tableswitch 83 0 5 #[37, 44, 50, 56, 66, 76], [102, 56, 63, 69, 75, 85, 95])) (by rw [b11]; decide) (u := 75) (by rw [b11]; rfl) ?_
            refine en_segs [(75, .aload_n 3, [])] (by decide +kernel) (y := (76, [some (.ref a0), some (.int p1), some (.int p2), some (.ref (cR c10 0 (cR c11 7 a0)))], [.ref (cR c10 0 (cR c11 7 a0))], h)) rfl ?_
            have k12 : aK d (cR c8 0 (cR c10 0 (cR c11 7 a0))) = (0, 1, 0) := wf_obj hW k4 (by decide) rfl
            refine en_get (by decide +kernel : u_at kl_128 76 = some (.getfield 66, [8, 0])) hW k4 (by decide) rfl ?_
            refine en_get (by decide +kernel : u_at kl_128 79 = some (.getfield 174, [1, 10])) hW k12 (by decide) rfl ?_
            refine en_segs [(82, .iload_n 1, [])] (by decide +kernel) (y := (83, [some (.ref a0), some (.int p1), some (.int p2), some (.ref (cR c10 0 (cR c11 7 a0)))], [.int p1, .ref (aP d 1 10 (cR c8 0 (cR c10 0 (cR c11 7 a0))))], h)) rfl ?_
            obtain ⟨v13, hv13, hF⟩ := ob_some hF
            refine en_iald (by decide +kernel : u_at kl_128 83 = some (.iaload, [])) hW k12 rfl (by decide) hv13 ?_
            obtain rfl := Option.some.inj hF
            exact en_ret (by decide +kernel : u_at kl_128 84 = some (.ireturn, [0])) rfl (hQ)
          · replace hF := i_neg b11 hF
            by_cases b14 : p2 = 4
            · replace hF := i_pos b14 hF
              refine en_tsC (by decide +kernel : u_at kl_128 19 = some (.tableswitch 83 0 5 #[37, 44, 50, 56, 66, 76], [102, 56, 63, 69, 75, 85, 95])) (by rw [b14]; decide) (u := 85) (by rw [b14]; rfl) ?_
              refine en_segs [(85, .aload_n 3, [])] (by decide +kernel) (y := (86, [some (.ref a0), some (.int p1), some (.int p2), some (.ref (cR c10 0 (cR c11 7 a0)))], [.ref (cR c10 0 (cR c11 7 a0))], h)) rfl ?_
              have k15 : aK d (cR c8 0 (cR c10 0 (cR c11 7 a0))) = (0, 1, 0) := wf_obj hW k4 (by decide) rfl
              refine en_get (by decide +kernel : u_at kl_128 86 = some (.getfield 66, [8, 0])) hW k4 (by decide) rfl ?_
              refine en_get (by decide +kernel : u_at kl_128 89 = some (.getfield 177, [1, 9])) hW k15 (by decide) rfl ?_
              refine en_segs [(92, .iload_n 1, [])] (by decide +kernel) (y := (93, [some (.ref a0), some (.int p1), some (.int p2), some (.ref (cR c10 0 (cR c11 7 a0)))], [.int p1, .ref (aP d 1 9 (cR c8 0 (cR c10 0 (cR c11 7 a0))))], h)) rfl ?_
              obtain ⟨v16, hv16, hF⟩ := ob_some hF
              refine en_iald (by decide +kernel : u_at kl_128 93 = some (.iaload, [])) hW k15 rfl (by decide) hv16 ?_
              obtain rfl := Option.some.inj hF
              exact en_ret (by decide +kernel : u_at kl_128 94 = some (.ireturn, [0])) rfl (hQ)
            · replace hF := i_neg b14 hF
              by_cases b17 : p2 = 5
              · replace hF := i_pos b17 hF
                refine en_tsC (by decide +kernel : u_at kl_128 19 = some (.tableswitch 83 0 5 #[37, 44, 50, 56, 66, 76], [102, 56, 63, 69, 75, 85, 95])) (by rw [b17]; decide) (u := 95) (by rw [b17]; rfl) ?_
                refine en_segs [(95, .aload_n 3, [])] (by decide +kernel) (y := (96, [some (.ref a0), some (.int p1), some (.int p2), some (.ref (cR c10 0 (cR c11 7 a0)))], [.ref (cR c10 0 (cR c11 7 a0))], h)) rfl ?_
                refine en_get (by decide +kernel : u_at kl_128 96 = some (.getfield 180, [8, 12])) hW k4 (by decide) rfl ?_
                refine en_segs [(99, .iload_n 1, [])] (by decide +kernel) (y := (100, [some (.ref a0), some (.int p1), some (.int p2), some (.ref (cR c10 0 (cR c11 7 a0)))], [.int p1, .ref (aP d 8 12 (cR c10 0 (cR c11 7 a0)))], h)) rfl ?_
                obtain ⟨v18, hv18, hF⟩ := ob_some hF
                refine en_iald (by decide +kernel : u_at kl_128 100 = some (.iaload, [])) hW k4 rfl (by decide) hv18 ?_
                obtain rfl := Option.some.inj hF
                exact en_ret (by decide +kernel : u_at kl_128 101 = some (.ireturn, [0])) rfl (hQ)
              · replace hF := i_neg b17 hF
                have wb5 : (p2 : Int32).toInt ≠ 0 := ti_ne b5
                have wb7 : (p2 : Int32).toInt ≠ 1 := ti_ne b7
                have wb9 : (p2 : Int32).toInt ≠ 2 := ti_ne b9
                have wb11 : (p2 : Int32).toInt ≠ 3 := ti_ne b11
                have wb14 : (p2 : Int32).toInt ≠ 4 := ti_ne b14
                have wb17 : (p2 : Int32).toInt ≠ 5 := ti_ne b17
                refine en_tsO (by decide +kernel : u_at kl_128 19 = some (.tableswitch 83 0 5 #[37, 44, 50, 56, 66, 76], [102, 56, 63, 69, 75, 85, 95])) (by omega) ?_
                refine en_segs [(102, .iconst (-1), [])] (by decide +kernel) (y := (103, [some (.ref a0), some (.int p1), some (.int p2), some (.ref (cR c10 0 (cR c11 7 a0)))], [.int (-1)], h)) rfl ?_
                obtain rfl := Option.some.inj hF
                exact en_ret (by decide +kernel : u_at kl_128 103 = some (.ireturn, [0])) rfl (hQ)
def F_161 (c1 : Cl) (c8 : Cl) (c10 : Cl) (c11 : Cl) (a0 : Nat) (p1 : Int32) : Option Int32 :=
  ((if p1 < 0 then
  some 0
  else
  if (cI c1 1 (cR c8 0 (cR c10 0 (cR c11 7 a0)))) ≤ p1 then
  some 0
  else
  some 1) : Option (Int32)) >>= fun (t1 : Int32) =>
  zb t1 >>= fun z3 => some z3
set_option maxRecDepth 100000 in
set_option maxHeartbeats 4000000 in
/-- HeadCounts.isDoor -/
theorem e_161 {D : Nat} {c0 c1 c2 c3 c4 c5 c6 c7 c8 c9 c10 c11 c12 c13 : Cl} {d : Ad} {h : UH} {a0 : Nat} {p1 : Int32} {r : Int32} (hD : 1 ≤ D) (hW : HW (mkw c0 c1 c2 c3 c4 c5 c6 c7 c8 c9 c10 c11 c12 c13) d h) (ha0 : aK d a0 = (0, 11, 0)) (hF : F_161 c1 c8 c10 c11 a0 p1 = some r) : ∃ q, EX D 161 [.ref a0, .int p1] h q ∧ q.1 = some (.int r) ∧ h = q.2 := by
  obtain ⟨D, rfl⟩ : ∃ E, D = E + 1 := ⟨D - 1, by omega⟩
  unfold F_161 at hF
  refine ex_in (kl := kl_161) (nL := 2) rfl (by decide +kernel) (Nat.le_of_ble_eq_true rfl) ?_
  obtain ⟨QQ, hQQ⟩ : ∃ QQ : UR → Prop, QQ = (fun q : UR => q.1 = some (.int r) ∧ h = q.2) := ⟨_, rfl⟩
  rw [← hQQ]
  have hQ : QQ (some (.int r), h) := by rw [hQQ]; exact ⟨rfl, rfl⟩
  clear hQQ
  show Ends (EX D) (u_at kl_161) (0, [some (.ref a0), some (.int p1)], [], h) QQ
  refine en_segs [(0, .iload_n 1, [])] (by decide +kernel) (y := (1, [some (.ref a0), some (.int p1)], [.int p1], h)) rfl ?_
  obtain ⟨t1, hX, hK⟩ := ob_some hF
  have j2 : Ends (EX D) (u_at kl_161) (26, [some (.ref a0), some (.int p1)], [.int t1], h) QQ := by
    have hF := hK
    obtain ⟨z3, hz3, hF⟩ := ob_some hF
    obtain rfl := Option.some.inj hF
    exact en_retZ (by decide +kernel : u_at kl_161 26 = some (.ireturn, [1])) hz3 (hQ)
  have hF := hX
  refine en_if_lt (by decide +kernel : u_at kl_161 1 = some (.ifCond .lt 24, [25])) (fun b4 => ?_) (fun b4 => ?_)
  · replace hF := i_pos b4 hF
    refine en_segs [(25, .iconst 0, [])] (by decide +kernel) (y := (26, [some (.ref a0), some (.int p1)], [.int 0], h)) rfl ?_
    obtain rfl := Option.some.inj hF
    exact j2
  · replace hF := i_neg b4 hF
    refine en_segs [(4, .iload_n 1, []), (5, .aload_n 0, [])] (by decide +kernel) (y := (6, [some (.ref a0), some (.int p1)], [.ref a0, .int p1], h)) rfl ?_
    have k5 : aK d (cR c11 7 a0) = (0, 10, 0) := wf_obj hW ha0 (by decide) rfl
    refine en_get (by decide +kernel : u_at kl_161 6 = some (.getfield 52, [11, 7])) hW ha0 (by decide) rfl ?_
    have k6 : aK d (cR c10 0 (cR c11 7 a0)) = (0, 8, 0) := wf_obj hW k5 (by decide) rfl
    refine en_get (by decide +kernel : u_at kl_161 9 = some (.getfield 62, [10, 0])) hW k5 (by decide) rfl ?_
    have k7 : aK d (cR c8 0 (cR c10 0 (cR c11 7 a0))) = (0, 1, 0) := wf_obj hW k6 (by decide) rfl
    refine en_get (by decide +kernel : u_at kl_161 12 = some (.getfield 66, [8, 0])) hW k6 (by decide) rfl ?_
    refine en_get (by decide +kernel : u_at kl_161 15 = some (.getfield 348, [1, 1])) hW k7 (by decide) rfl ?_
    refine en_ic_ge (by decide +kernel : u_at kl_161 18 = some (.if_icmp .ge 7, [25])) (fun b8 => ?_) (fun b8 => ?_)
    · replace hF := i_pos b8 hF
      refine en_segs [(25, .iconst 0, [])] (by decide +kernel) (y := (26, [some (.ref a0), some (.int p1)], [.int 0], h)) rfl ?_
      obtain rfl := Option.some.inj hF
      exact j2
    · replace hF := i_neg b8 hF
      refine en_segs [(21, .iconst 1, []), (22, .goto 4, [26])] (by decide +kernel) (y := (26, [some (.ref a0), some (.int p1)], [.int 1], h)) rfl ?_
      obtain rfl := Option.some.inj hF
      exact j2
def F_129 (c1 : Cl) (c8 : Cl) (c10 : Cl) (c11 : Cl) (a0 : Nat) (p1 : Int32) (p2 : Int32) : Option Int32 :=
  F_161 c1 c8 c10 c11 a0 p1 >>= fun r1 =>
  if r1 = 0 then
  some (-1)
  else
  if p2 = 0 then
  ald (cA c1 5 (cR c8 0 (cR c10 0 (cR c11 7 a0)))) 10 p1 >>= fun v7 =>
  some v7
  else
  if p2 = 1 then
  ald (cA c1 6 (cR c8 0 (cR c10 0 (cR c11 7 a0)))) 10 p1 >>= fun v10 =>
  some v10
  else
  if p2 = 2 then
  F_85 c8 (cR c10 0 (cR c11 7 a0)) p1 >>= fun r12 =>
  ((if r12 = 0 then
  some 0
  else
  some 1) : Option (Int32)) >>= fun (t13 : Int32) =>
  some t13
  else
  some (-1)
set_option maxRecDepth 100000 in
set_option maxHeartbeats 4000000 in
/-- HeadCounts.door -/
theorem e_129 {D : Nat} {c0 c1 c2 c3 c4 c5 c6 c7 c8 c9 c10 c11 c12 c13 : Cl} {d : Ad} {h : UH} {a0 : Nat} {p1 : Int32} {p2 : Int32} {r : Int32} (hD : 2 ≤ D) (hW : HW (mkw c0 c1 c2 c3 c4 c5 c6 c7 c8 c9 c10 c11 c12 c13) d h) (ha0 : aK d a0 = (0, 11, 0)) (hF : F_129 c1 c8 c10 c11 a0 p1 p2 = some r) : ∃ q, EX D 129 [.ref a0, .int p1, .int p2] h q ∧ q.1 = some (.int r) ∧ h = q.2 := by
  obtain ⟨D, rfl⟩ : ∃ E, D = E + 1 := ⟨D - 1, by omega⟩
  unfold F_129 at hF
  refine ex_in (kl := kl_129) (nL := 4) rfl (by decide +kernel) (Nat.le_of_ble_eq_true rfl) ?_
  obtain ⟨QQ, hQQ⟩ : ∃ QQ : UR → Prop, QQ = (fun q : UR => q.1 = some (.int r) ∧ h = q.2) := ⟨_, rfl⟩
  rw [← hQQ]
  have hQ : QQ (some (.int r), h) := by rw [hQQ]; exact ⟨rfl, rfl⟩
  clear hQQ
  show Ends (EX D) (u_at kl_129) (0, [some (.ref a0), some (.int p1), some (.int p2), none], [], h) QQ
  refine en_segs [(0, .aload_n 0, []), (1, .iload_n 1, [])] (by decide +kernel) (y := (2, [some (.ref a0), some (.int p1), some (.int p2), none], [.int p1, .ref a0], h)) rfl ?_
  obtain ⟨r1, hr1, hF⟩ := ob_some hF
  refine en_vi (r := []) (by decide +kernel : u_at kl_129 2 = some (.invokevirtual 183, [161, 1, 11])) hW ha0 rfl rfl (Nat.le_of_ble_eq_true rfl) (e_161 (D := D) (by omega) hW ha0 hr1) (fun h' q => ?_)
  subst q
  refine en_if_ne (by decide +kernel : u_at kl_129 5 = some (.ifCond .ne 5, [10])) (fun b2 => ?_) (fun b2 => ?_)
  · replace hF := i_pos b2 hF
    refine en_segs [(8, .iconst (-1), [])] (by decide +kernel) (y := (9, [some (.ref a0), some (.int p1), some (.int p2), none], [.int (-1)], h)) rfl ?_
    obtain rfl := Option.some.inj hF
    exact en_ret (by decide +kernel : u_at kl_129 9 = some (.ireturn, [0])) rfl (hQ)
  · replace hF := i_neg b2 hF
    refine en_segs [(10, .aload_n 0, [])] (by decide +kernel) (y := (11, [some (.ref a0), some (.int p1), some (.int p2), none], [.ref a0], h)) rfl ?_
    have k3 : aK d (cR c11 7 a0) = (0, 10, 0) := wf_obj hW ha0 (by decide) rfl
    refine en_get (by decide +kernel : u_at kl_129 11 = some (.getfield 52, [11, 7])) hW ha0 (by decide) rfl ?_
    have k4 : aK d (cR c10 0 (cR c11 7 a0)) = (0, 8, 0) := wf_obj hW k3 (by decide) rfl
    refine en_get (by decide +kernel : u_at kl_129 14 = some (.getfield 62, [10, 0])) hW k3 (by decide) rfl ?_
    refine en_segs [(17, .astore_n 3, []), (18, .iload_n 2, [])] (by decide +kernel) (y := (19, [some (.ref a0), some (.int p1), some (.int p2), some (.ref (cR c10 0 (cR c11 7 a0)))], [.int p2], h)) rfl ?_
    by_cases b5 : p2 = 0
    · replace hF := i_pos b5 hF
      refine en_tsC (by decide +kernel : u_at kl_129 19 = some (.tableswitch 59 0 2 #[25, 35, 45], [78, 44, 54, 64])) (by rw [b5]; decide) (u := 44) (by rw [b5]; rfl) ?_
      refine en_segs [(44, .aload_n 3, [])] (by decide +kernel) (y := (45, [some (.ref a0), some (.int p1), some (.int p2), some (.ref (cR c10 0 (cR c11 7 a0)))], [.ref (cR c10 0 (cR c11 7 a0))], h)) rfl ?_
      have k6 : aK d (cR c8 0 (cR c10 0 (cR c11 7 a0))) = (0, 1, 0) := wf_obj hW k4 (by decide) rfl
      refine en_get (by decide +kernel : u_at kl_129 45 = some (.getfield 66, [8, 0])) hW k4 (by decide) rfl ?_
      refine en_get (by decide +kernel : u_at kl_129 48 = some (.getfield 186, [1, 5])) hW k6 (by decide) rfl ?_
      refine en_segs [(51, .iload_n 1, [])] (by decide +kernel) (y := (52, [some (.ref a0), some (.int p1), some (.int p2), some (.ref (cR c10 0 (cR c11 7 a0)))], [.int p1, .ref (aP d 1 5 (cR c8 0 (cR c10 0 (cR c11 7 a0))))], h)) rfl ?_
      obtain ⟨v7, hv7, hF⟩ := ob_some hF
      refine en_iald (by decide +kernel : u_at kl_129 52 = some (.iaload, [])) hW k6 rfl (by decide) hv7 ?_
      obtain rfl := Option.some.inj hF
      exact en_ret (by decide +kernel : u_at kl_129 53 = some (.ireturn, [0])) rfl (hQ)
    · replace hF := i_neg b5 hF
      by_cases b8 : p2 = 1
      · replace hF := i_pos b8 hF
        refine en_tsC (by decide +kernel : u_at kl_129 19 = some (.tableswitch 59 0 2 #[25, 35, 45], [78, 44, 54, 64])) (by rw [b8]; decide) (u := 54) (by rw [b8]; rfl) ?_
        refine en_segs [(54, .aload_n 3, [])] (by decide +kernel) (y := (55, [some (.ref a0), some (.int p1), some (.int p2), some (.ref (cR c10 0 (cR c11 7 a0)))], [.ref (cR c10 0 (cR c11 7 a0))], h)) rfl ?_
        have k9 : aK d (cR c8 0 (cR c10 0 (cR c11 7 a0))) = (0, 1, 0) := wf_obj hW k4 (by decide) rfl
        refine en_get (by decide +kernel : u_at kl_129 55 = some (.getfield 66, [8, 0])) hW k4 (by decide) rfl ?_
        refine en_get (by decide +kernel : u_at kl_129 58 = some (.getfield 189, [1, 6])) hW k9 (by decide) rfl ?_
        refine en_segs [(61, .iload_n 1, [])] (by decide +kernel) (y := (62, [some (.ref a0), some (.int p1), some (.int p2), some (.ref (cR c10 0 (cR c11 7 a0)))], [.int p1, .ref (aP d 1 6 (cR c8 0 (cR c10 0 (cR c11 7 a0))))], h)) rfl ?_
        obtain ⟨v10, hv10, hF⟩ := ob_some hF
        refine en_iald (by decide +kernel : u_at kl_129 62 = some (.iaload, [])) hW k9 rfl (by decide) hv10 ?_
        obtain rfl := Option.some.inj hF
        exact en_ret (by decide +kernel : u_at kl_129 63 = some (.ireturn, [0])) rfl (hQ)
      · replace hF := i_neg b8 hF
        by_cases b11 : p2 = 2
        · replace hF := i_pos b11 hF
          refine en_tsC (by decide +kernel : u_at kl_129 19 = some (.tableswitch 59 0 2 #[25, 35, 45], [78, 44, 54, 64])) (by rw [b11]; decide) (u := 64) (by rw [b11]; rfl) ?_
          refine en_segs [(64, .aload_n 3, []), (65, .iload_n 1, [])] (by decide +kernel) (y := (66, [some (.ref a0), some (.int p1), some (.int p2), some (.ref (cR c10 0 (cR c11 7 a0)))], [.int p1, .ref (cR c10 0 (cR c11 7 a0))], h)) rfl ?_
          obtain ⟨r12, hr12, hF⟩ := ob_some hF
          refine en_vi (r := []) (by decide +kernel : u_at kl_129 66 = some (.invokevirtual 192, [85, 1, 8])) hW k4 rfl rfl (Nat.le_of_ble_eq_true rfl) (e_85 (D := D) (by omega) hW k4 hr12) (fun h' q => ?_)
          subst q
          obtain ⟨t13, hX, hK⟩ := ob_some hF
          have j14 : Ends (EX D) (u_at kl_129) (77, [some (.ref a0), some (.int p1), some (.int p2), some (.ref (cR c10 0 (cR c11 7 a0)))], [.int t13], h) QQ := by
            have hF := hK
            obtain rfl := Option.some.inj hF
            exact en_ret (by decide +kernel : u_at kl_129 77 = some (.ireturn, [0])) rfl (hQ)
          have hF := hX
          refine en_if_eq (by decide +kernel : u_at kl_129 69 = some (.ifCond .eq 7, [76])) (fun b15 => ?_) (fun b15 => ?_)
          · replace hF := i_pos b15 hF
            refine en_segs [(76, .iconst 0, [])] (by decide +kernel) (y := (77, [some (.ref a0), some (.int p1), some (.int p2), some (.ref (cR c10 0 (cR c11 7 a0)))], [.int 0], h)) rfl ?_
            obtain rfl := Option.some.inj hF
            exact j14
          · replace hF := i_neg b15 hF
            refine en_segs [(72, .iconst 1, []), (73, .goto 4, [77])] (by decide +kernel) (y := (77, [some (.ref a0), some (.int p1), some (.int p2), some (.ref (cR c10 0 (cR c11 7 a0)))], [.int 1], h)) rfl ?_
            obtain rfl := Option.some.inj hF
            exact j14
        · replace hF := i_neg b11 hF
          have wb5 : (p2 : Int32).toInt ≠ 0 := ti_ne b5
          have wb8 : (p2 : Int32).toInt ≠ 1 := ti_ne b8
          have wb11 : (p2 : Int32).toInt ≠ 2 := ti_ne b11
          refine en_tsO (by decide +kernel : u_at kl_129 19 = some (.tableswitch 59 0 2 #[25, 35, 45], [78, 44, 54, 64])) (by omega) ?_
          refine en_segs [(78, .iconst (-1), [])] (by decide +kernel) (y := (79, [some (.ref a0), some (.int p1), some (.int p2), some (.ref (cR c10 0 (cR c11 7 a0)))], [.int (-1)], h)) rfl ?_
          obtain rfl := Option.some.inj hF
          exact en_ret (by decide +kernel : u_at kl_129 79 = some (.ireturn, [0])) rfl (hQ)
def F_162 (c1 : Cl) (c8 : Cl) (c10 : Cl) (c11 : Cl) (a0 : Nat) (p1 : Int32) : Option Int32 :=
  ((if p1 < 0 then
  some 0
  else
  if (cI c1 3 (cR c8 0 (cR c10 0 (cR c11 7 a0)))) ≤ p1 then
  some 0
  else
  some 1) : Option (Int32)) >>= fun (t1 : Int32) =>
  zb t1 >>= fun z3 => some z3
set_option maxRecDepth 100000 in
set_option maxHeartbeats 4000000 in
/-- HeadCounts.isSense -/
theorem e_162 {D : Nat} {c0 c1 c2 c3 c4 c5 c6 c7 c8 c9 c10 c11 c12 c13 : Cl} {d : Ad} {h : UH} {a0 : Nat} {p1 : Int32} {r : Int32} (hD : 1 ≤ D) (hW : HW (mkw c0 c1 c2 c3 c4 c5 c6 c7 c8 c9 c10 c11 c12 c13) d h) (ha0 : aK d a0 = (0, 11, 0)) (hF : F_162 c1 c8 c10 c11 a0 p1 = some r) : ∃ q, EX D 162 [.ref a0, .int p1] h q ∧ q.1 = some (.int r) ∧ h = q.2 := by
  obtain ⟨D, rfl⟩ : ∃ E, D = E + 1 := ⟨D - 1, by omega⟩
  unfold F_162 at hF
  refine ex_in (kl := kl_162) (nL := 2) rfl (by decide +kernel) (Nat.le_of_ble_eq_true rfl) ?_
  obtain ⟨QQ, hQQ⟩ : ∃ QQ : UR → Prop, QQ = (fun q : UR => q.1 = some (.int r) ∧ h = q.2) := ⟨_, rfl⟩
  rw [← hQQ]
  have hQ : QQ (some (.int r), h) := by rw [hQQ]; exact ⟨rfl, rfl⟩
  clear hQQ
  show Ends (EX D) (u_at kl_162) (0, [some (.ref a0), some (.int p1)], [], h) QQ
  refine en_segs [(0, .iload_n 1, [])] (by decide +kernel) (y := (1, [some (.ref a0), some (.int p1)], [.int p1], h)) rfl ?_
  obtain ⟨t1, hX, hK⟩ := ob_some hF
  have j2 : Ends (EX D) (u_at kl_162) (26, [some (.ref a0), some (.int p1)], [.int t1], h) QQ := by
    have hF := hK
    obtain ⟨z3, hz3, hF⟩ := ob_some hF
    obtain rfl := Option.some.inj hF
    exact en_retZ (by decide +kernel : u_at kl_162 26 = some (.ireturn, [1])) hz3 (hQ)
  have hF := hX
  refine en_if_lt (by decide +kernel : u_at kl_162 1 = some (.ifCond .lt 24, [25])) (fun b4 => ?_) (fun b4 => ?_)
  · replace hF := i_pos b4 hF
    refine en_segs [(25, .iconst 0, [])] (by decide +kernel) (y := (26, [some (.ref a0), some (.int p1)], [.int 0], h)) rfl ?_
    obtain rfl := Option.some.inj hF
    exact j2
  · replace hF := i_neg b4 hF
    refine en_segs [(4, .iload_n 1, []), (5, .aload_n 0, [])] (by decide +kernel) (y := (6, [some (.ref a0), some (.int p1)], [.ref a0, .int p1], h)) rfl ?_
    have k5 : aK d (cR c11 7 a0) = (0, 10, 0) := wf_obj hW ha0 (by decide) rfl
    refine en_get (by decide +kernel : u_at kl_162 6 = some (.getfield 52, [11, 7])) hW ha0 (by decide) rfl ?_
    have k6 : aK d (cR c10 0 (cR c11 7 a0)) = (0, 8, 0) := wf_obj hW k5 (by decide) rfl
    refine en_get (by decide +kernel : u_at kl_162 9 = some (.getfield 62, [10, 0])) hW k5 (by decide) rfl ?_
    have k7 : aK d (cR c8 0 (cR c10 0 (cR c11 7 a0))) = (0, 1, 0) := wf_obj hW k6 (by decide) rfl
    refine en_get (by decide +kernel : u_at kl_162 12 = some (.getfield 66, [8, 0])) hW k6 (by decide) rfl ?_
    refine en_get (by decide +kernel : u_at kl_162 15 = some (.getfield 351, [1, 3])) hW k7 (by decide) rfl ?_
    refine en_ic_ge (by decide +kernel : u_at kl_162 18 = some (.if_icmp .ge 7, [25])) (fun b8 => ?_) (fun b8 => ?_)
    · replace hF := i_pos b8 hF
      refine en_segs [(25, .iconst 0, [])] (by decide +kernel) (y := (26, [some (.ref a0), some (.int p1)], [.int 0], h)) rfl ?_
      obtain rfl := Option.some.inj hF
      exact j2
    · replace hF := i_neg b8 hF
      refine en_segs [(21, .iconst 1, []), (22, .goto 4, [26])] (by decide +kernel) (y := (26, [some (.ref a0), some (.int p1)], [.int 1], h)) rfl ?_
      obtain rfl := Option.some.inj hF
      exact j2
def F_130 (c1 : Cl) (c8 : Cl) (c10 : Cl) (c11 : Cl) (a0 : Nat) (p1 : Int32) (p2 : Int32) : Option Int32 :=
  F_162 c1 c8 c10 c11 a0 p1 >>= fun r1 =>
  if r1 = 0 then
  some (-1)
  else
  if p2 = 0 then
  ald (cA c1 11 (cR c8 0 (cR c10 0 (cR c11 7 a0)))) 6 p1 >>= fun v7 =>
  some v7
  else
  if p2 = 1 then
  F_97 c1 c8 (cR c10 0 (cR c11 7 a0)) p1 >>= fun r11 =>
  some r11
  else
  some (-1)
set_option maxRecDepth 100000 in
set_option maxHeartbeats 4000000 in
/-- HeadCounts.sense -/
theorem e_130 {D : Nat} {c0 c1 c2 c3 c4 c5 c6 c7 c8 c9 c10 c11 c12 c13 : Cl} {d : Ad} {h : UH} {a0 : Nat} {p1 : Int32} {p2 : Int32} {r : Int32} (hD : 4 ≤ D) (hW : HW (mkw c0 c1 c2 c3 c4 c5 c6 c7 c8 c9 c10 c11 c12 c13) d h) (ha0 : aK d a0 = (0, 11, 0)) (hF : F_130 c1 c8 c10 c11 a0 p1 p2 = some r) : ∃ q, EX D 130 [.ref a0, .int p1, .int p2] h q ∧ q.1 = some (.int r) ∧ h = q.2 := by
  obtain ⟨D, rfl⟩ : ∃ E, D = E + 1 := ⟨D - 1, by omega⟩
  unfold F_130 at hF
  refine ex_in (kl := kl_130) (nL := 3) rfl (by decide +kernel) (Nat.le_of_ble_eq_true rfl) ?_
  obtain ⟨QQ, hQQ⟩ : ∃ QQ : UR → Prop, QQ = (fun q : UR => q.1 = some (.int r) ∧ h = q.2) := ⟨_, rfl⟩
  rw [← hQQ]
  have hQ : QQ (some (.int r), h) := by rw [hQQ]; exact ⟨rfl, rfl⟩
  clear hQQ
  show Ends (EX D) (u_at kl_130) (0, [some (.ref a0), some (.int p1), some (.int p2)], [], h) QQ
  refine en_segs [(0, .aload_n 0, []), (1, .iload_n 1, [])] (by decide +kernel) (y := (2, [some (.ref a0), some (.int p1), some (.int p2)], [.int p1, .ref a0], h)) rfl ?_
  obtain ⟨r1, hr1, hF⟩ := ob_some hF
  refine en_vi (r := []) (by decide +kernel : u_at kl_130 2 = some (.invokevirtual 195, [162, 1, 11])) hW ha0 rfl rfl (Nat.le_of_ble_eq_true rfl) (e_162 (D := D) (by omega) hW ha0 hr1) (fun h' q => ?_)
  subst q
  refine en_if_ne (by decide +kernel : u_at kl_130 5 = some (.ifCond .ne 5, [10])) (fun b2 => ?_) (fun b2 => ?_)
  · replace hF := i_pos b2 hF
    refine en_segs [(8, .iconst (-1), [])] (by decide +kernel) (y := (9, [some (.ref a0), some (.int p1), some (.int p2)], [.int (-1)], h)) rfl ?_
    obtain rfl := Option.some.inj hF
    exact en_ret (by decide +kernel : u_at kl_130 9 = some (.ireturn, [0])) rfl (hQ)
  · replace hF := i_neg b2 hF
    refine en_segs [(10, .iload_n 2, [])] (by decide +kernel) (y := (11, [some (.ref a0), some (.int p1), some (.int p2)], [.int p2], h)) rfl ?_
    by_cases b3 : p2 = 0
    · replace hF := i_pos b3 hF
      refine en_ls (by decide +kernel : u_at kl_130 11 = some (.lookupswitch 53 #[(0, 25), (1, 41)], [])) (u := 36) (by rw [b3]; decide) ?_
      refine en_segs [(36, .aload_n 0, [])] (by decide +kernel) (y := (37, [some (.ref a0), some (.int p1), some (.int p2)], [.ref a0], h)) rfl ?_
      have k4 : aK d (cR c11 7 a0) = (0, 10, 0) := wf_obj hW ha0 (by decide) rfl
      refine en_get (by decide +kernel : u_at kl_130 37 = some (.getfield 52, [11, 7])) hW ha0 (by decide) rfl ?_
      have k5 : aK d (cR c10 0 (cR c11 7 a0)) = (0, 8, 0) := wf_obj hW k4 (by decide) rfl
      refine en_get (by decide +kernel : u_at kl_130 40 = some (.getfield 62, [10, 0])) hW k4 (by decide) rfl ?_
      have k6 : aK d (cR c8 0 (cR c10 0 (cR c11 7 a0))) = (0, 1, 0) := wf_obj hW k5 (by decide) rfl
      refine en_get (by decide +kernel : u_at kl_130 43 = some (.getfield 66, [8, 0])) hW k5 (by decide) rfl ?_
      refine en_get (by decide +kernel : u_at kl_130 46 = some (.getfield 198, [1, 11])) hW k6 (by decide) rfl ?_
      refine en_segs [(49, .iload_n 1, [])] (by decide +kernel) (y := (50, [some (.ref a0), some (.int p1), some (.int p2)], [.int p1, .ref (aP d 1 11 (cR c8 0 (cR c10 0 (cR c11 7 a0))))], h)) rfl ?_
      obtain ⟨v7, hv7, hF⟩ := ob_some hF
      refine en_iald (by decide +kernel : u_at kl_130 50 = some (.iaload, [])) hW k6 rfl (by decide) hv7 ?_
      obtain rfl := Option.some.inj hF
      exact en_ret (by decide +kernel : u_at kl_130 51 = some (.ireturn, [0])) rfl (hQ)
    · replace hF := i_neg b3 hF
      by_cases b8 : p2 = 1
      · replace hF := i_pos b8 hF
        refine en_ls (by decide +kernel : u_at kl_130 11 = some (.lookupswitch 53 #[(0, 25), (1, 41)], [])) (u := 52) (by rw [b8]; decide) ?_
        refine en_segs [(52, .aload_n 0, [])] (by decide +kernel) (y := (53, [some (.ref a0), some (.int p1), some (.int p2)], [.ref a0], h)) rfl ?_
        have k9 : aK d (cR c11 7 a0) = (0, 10, 0) := wf_obj hW ha0 (by decide) rfl
        refine en_get (by decide +kernel : u_at kl_130 53 = some (.getfield 52, [11, 7])) hW ha0 (by decide) rfl ?_
        have k10 : aK d (cR c10 0 (cR c11 7 a0)) = (0, 8, 0) := wf_obj hW k9 (by decide) rfl
        refine en_get (by decide +kernel : u_at kl_130 56 = some (.getfield 62, [10, 0])) hW k9 (by decide) rfl ?_
        refine en_segs [(59, .iload_n 1, [])] (by decide +kernel) (y := (60, [some (.ref a0), some (.int p1), some (.int p2)], [.int p1, .ref (cR c10 0 (cR c11 7 a0))], h)) rfl ?_
        obtain ⟨r11, hr11, hF⟩ := ob_some hF
        refine en_vi (r := []) (by decide +kernel : u_at kl_130 60 = some (.invokevirtual 201, [97, 1, 8])) hW k10 rfl rfl (Nat.le_of_ble_eq_true rfl) (e_97 (D := D) (by omega) hW k10 hr11) (fun h' q => ?_)
        subst q
        obtain rfl := Option.some.inj hF
        exact en_ret (by decide +kernel : u_at kl_130 63 = some (.ireturn, [0])) rfl (hQ)
      · replace hF := i_neg b8 hF
        have wb3 : (p2 : Int32).toInt ≠ 0 := ti_ne b3
        have wb8 : (p2 : Int32).toInt ≠ 1 := ti_ne b8
        refine en_ls (by decide +kernel : u_at kl_130 11 = some (.lookupswitch 53 #[(0, 25), (1, 41)], [])) (u := 64) (by simp [Op.lookupswitch.offset, Ne.symm wb3, Ne.symm wb8]) ?_
        refine en_segs [(64, .iconst (-1), [])] (by decide +kernel) (y := (65, [some (.ref a0), some (.int p1), some (.int p2)], [.int (-1)], h)) rfl ?_
        obtain rfl := Option.some.inj hF
        exact en_ret (by decide +kernel : u_at kl_130 65 = some (.ireturn, [0])) rfl (hQ)
def F_131 (c1 : Cl) (c8 : Cl) (c10 : Cl) (c11 : Cl) (a0 : Nat) (p1 : Int32) (p2 : Int32) : Option Int32 :=
  F_160 c1 c8 c10 c11 a0 p1 >>= fun r1 =>
  if r1 = 0 then
  some (-1)
  else
  if p2 < 0 then
  some (-1)
  else
  if 10 ≤ p2 then
  some (-1)
  else
  if p2 ≤ (cI c8 1 (cR c10 0 (cR c11 7 a0))) then
  F_95 c1 c8 (cR c10 0 (cR c11 7 a0)) p1 p2 >>= fun r8 =>
  some r8
  else
  some (-1)
set_option maxRecDepth 100000 in
set_option maxHeartbeats 4000000 in
/-- HeadCounts.was -/
theorem e_131 {D : Nat} {c0 c1 c2 c3 c4 c5 c6 c7 c8 c9 c10 c11 c12 c13 : Cl} {d : Ad} {h : UH} {a0 : Nat} {p1 : Int32} {p2 : Int32} {r : Int32} (hD : 2 ≤ D) (hW : HW (mkw c0 c1 c2 c3 c4 c5 c6 c7 c8 c9 c10 c11 c12 c13) d h) (ha0 : aK d a0 = (0, 11, 0)) (hF : F_131 c1 c8 c10 c11 a0 p1 p2 = some r) : ∃ q, EX D 131 [.ref a0, .int p1, .int p2] h q ∧ q.1 = some (.int r) ∧ h = q.2 := by
  obtain ⟨D, rfl⟩ : ∃ E, D = E + 1 := ⟨D - 1, by omega⟩
  unfold F_131 at hF
  refine ex_in (kl := kl_131) (nL := 3) rfl (by decide +kernel) (Nat.le_of_ble_eq_true rfl) ?_
  obtain ⟨QQ, hQQ⟩ : ∃ QQ : UR → Prop, QQ = (fun q : UR => q.1 = some (.int r) ∧ h = q.2) := ⟨_, rfl⟩
  rw [← hQQ]
  have hQ : QQ (some (.int r), h) := by rw [hQQ]; exact ⟨rfl, rfl⟩
  clear hQQ
  show Ends (EX D) (u_at kl_131) (0, [some (.ref a0), some (.int p1), some (.int p2)], [], h) QQ
  refine en_segs [(0, .aload_n 0, []), (1, .iload_n 1, [])] (by decide +kernel) (y := (2, [some (.ref a0), some (.int p1), some (.int p2)], [.int p1, .ref a0], h)) rfl ?_
  obtain ⟨r1, hr1, hF⟩ := ob_some hF
  refine en_vi (r := []) (by decide +kernel : u_at kl_131 2 = some (.invokevirtual 161, [160, 1, 11])) hW ha0 rfl rfl (Nat.le_of_ble_eq_true rfl) (e_160 (D := D) (by omega) hW ha0 hr1) (fun h' q => ?_)
  subst q
  refine en_if_eq (by decide +kernel : u_at kl_131 5 = some (.ifCond .eq 27, [32])) (fun b2 => ?_) (fun b2 => ?_)
  · replace hF := i_pos b2 hF
    refine en_segs [(32, .iconst (-1), [])] (by decide +kernel) (y := (33, [some (.ref a0), some (.int p1), some (.int p2)], [.int (-1)], h)) rfl ?_
    obtain rfl := Option.some.inj hF
    exact en_ret (by decide +kernel : u_at kl_131 33 = some (.ireturn, [0])) rfl (hQ)
  · replace hF := i_neg b2 hF
    refine en_segs [(8, .iload_n 2, [])] (by decide +kernel) (y := (9, [some (.ref a0), some (.int p1), some (.int p2)], [.int p2], h)) rfl ?_
    refine en_if_lt (by decide +kernel : u_at kl_131 9 = some (.ifCond .lt 23, [32])) (fun b3 => ?_) (fun b3 => ?_)
    · replace hF := i_pos b3 hF
      refine en_segs [(32, .iconst (-1), [])] (by decide +kernel) (y := (33, [some (.ref a0), some (.int p1), some (.int p2)], [.int (-1)], h)) rfl ?_
      obtain rfl := Option.some.inj hF
      exact en_ret (by decide +kernel : u_at kl_131 33 = some (.ireturn, [0])) rfl (hQ)
    · replace hF := i_neg b3 hF
      refine en_segs [(12, .iload_n 2, []), (13, .bipush 10, [])] (by decide +kernel) (y := (15, [some (.ref a0), some (.int p1), some (.int p2)], [.int 10, .int p2], h)) rfl ?_
      refine en_ic_ge (by decide +kernel : u_at kl_131 15 = some (.if_icmp .ge 17, [32])) (fun b4 => ?_) (fun b4 => ?_)
      · replace hF := i_pos b4 hF
        refine en_segs [(32, .iconst (-1), [])] (by decide +kernel) (y := (33, [some (.ref a0), some (.int p1), some (.int p2)], [.int (-1)], h)) rfl ?_
        obtain rfl := Option.some.inj hF
        exact en_ret (by decide +kernel : u_at kl_131 33 = some (.ireturn, [0])) rfl (hQ)
      · replace hF := i_neg b4 hF
        refine en_segs [(18, .iload_n 2, []), (19, .aload_n 0, [])] (by decide +kernel) (y := (20, [some (.ref a0), some (.int p1), some (.int p2)], [.ref a0, .int p2], h)) rfl ?_
        have k5 : aK d (cR c11 7 a0) = (0, 10, 0) := wf_obj hW ha0 (by decide) rfl
        refine en_get (by decide +kernel : u_at kl_131 20 = some (.getfield 52, [11, 7])) hW ha0 (by decide) rfl ?_
        have k6 : aK d (cR c10 0 (cR c11 7 a0)) = (0, 8, 0) := wf_obj hW k5 (by decide) rfl
        refine en_get (by decide +kernel : u_at kl_131 23 = some (.getfield 62, [10, 0])) hW k5 (by decide) rfl ?_
        refine en_get (by decide +kernel : u_at kl_131 26 = some (.getfield 204, [8, 1])) hW k6 (by decide) rfl ?_
        refine en_ic_le (by decide +kernel : u_at kl_131 29 = some (.if_icmp .le 5, [34])) (fun b7 => ?_) (fun b7 => ?_)
        · replace hF := i_pos b7 hF
          refine en_segs [(34, .aload_n 0, [])] (by decide +kernel) (y := (35, [some (.ref a0), some (.int p1), some (.int p2)], [.ref a0], h)) rfl ?_
          refine en_get (by decide +kernel : u_at kl_131 35 = some (.getfield 52, [11, 7])) hW ha0 (by decide) rfl ?_
          refine en_get (by decide +kernel : u_at kl_131 38 = some (.getfield 62, [10, 0])) hW k5 (by decide) rfl ?_
          refine en_segs [(41, .iload_n 1, []), (42, .iload_n 2, [])] (by decide +kernel) (y := (43, [some (.ref a0), some (.int p1), some (.int p2)], [.int p2, .int p1, .ref (cR c10 0 (cR c11 7 a0))], h)) rfl ?_
          obtain ⟨r8, hr8, hF⟩ := ob_some hF
          refine en_vi (r := []) (by decide +kernel : u_at kl_131 43 = some (.invokevirtual 207, [95, 2, 8])) hW k6 rfl rfl (Nat.le_of_ble_eq_true rfl) (e_95 (D := D) (by omega) hW k6 hr8) (fun h' q => ?_)
          subst q
          obtain rfl := Option.some.inj hF
          exact en_ret (by decide +kernel : u_at kl_131 46 = some (.ireturn, [0])) rfl (hQ)
        · replace hF := i_neg b7 hF
          refine en_segs [(32, .iconst (-1), [])] (by decide +kernel) (y := (33, [some (.ref a0), some (.int p1), some (.int p2)], [.int (-1)], h)) rfl ?_
          obtain rfl := Option.some.inj hF
          exact en_ret (by decide +kernel : u_at kl_131 33 = some (.ireturn, [0])) rfl (hQ)
def F_165 (c8 : Cl) (c10 : Cl) (c11 : Cl) (a0 : Nat) (p1 : Int32) : Option Int32 :=
  ((if 9999 < ((cI c8 1 (cR c10 0 (cR c11 7 a0))) + p1) then
  some 0
  else
  some 1) : Option (Int32)) >>= fun (t3 : Int32) =>
  zb t3 >>= fun z5 => some z5
set_option maxRecDepth 100000 in
set_option maxHeartbeats 4000000 in
/-- HeadCounts.canPass -/
theorem e_165 {D : Nat} {c0 c1 c2 c3 c4 c5 c6 c7 c8 c9 c10 c11 c12 c13 : Cl} {d : Ad} {h : UH} {a0 : Nat} {p1 : Int32} {r : Int32} (hD : 1 ≤ D) (hW : HW (mkw c0 c1 c2 c3 c4 c5 c6 c7 c8 c9 c10 c11 c12 c13) d h) (ha0 : aK d a0 = (0, 11, 0)) (hF : F_165 c8 c10 c11 a0 p1 = some r) : ∃ q, EX D 165 [.ref a0, .int p1] h q ∧ q.1 = some (.int r) ∧ h = q.2 := by
  obtain ⟨D, rfl⟩ : ∃ E, D = E + 1 := ⟨D - 1, by omega⟩
  unfold F_165 at hF
  refine ex_in (kl := kl_165) (nL := 2) rfl (by decide +kernel) (Nat.le_of_ble_eq_true rfl) ?_
  obtain ⟨QQ, hQQ⟩ : ∃ QQ : UR → Prop, QQ = (fun q : UR => q.1 = some (.int r) ∧ h = q.2) := ⟨_, rfl⟩
  rw [← hQQ]
  have hQ : QQ (some (.int r), h) := by rw [hQQ]; exact ⟨rfl, rfl⟩
  clear hQQ
  show Ends (EX D) (u_at kl_165) (0, [some (.ref a0), some (.int p1)], [], h) QQ
  refine en_segs [(0, .aload_n 0, [])] (by decide +kernel) (y := (1, [some (.ref a0), some (.int p1)], [.ref a0], h)) rfl ?_
  have k1 : aK d (cR c11 7 a0) = (0, 10, 0) := wf_obj hW ha0 (by decide) rfl
  refine en_get (by decide +kernel : u_at kl_165 1 = some (.getfield 52, [11, 7])) hW ha0 (by decide) rfl ?_
  have k2 : aK d (cR c10 0 (cR c11 7 a0)) = (0, 8, 0) := wf_obj hW k1 (by decide) rfl
  refine en_get (by decide +kernel : u_at kl_165 4 = some (.getfield 62, [10, 0])) hW k1 (by decide) rfl ?_
  refine en_get (by decide +kernel : u_at kl_165 7 = some (.getfield 204, [8, 1])) hW k2 (by decide) rfl ?_
  refine en_segs [(10, .iload_n 1, []), (11, .iadd, []), (12, .sipush 9999, [])] (by decide +kernel) (y := (15, [some (.ref a0), some (.int p1)], [.int 9999, .int ((cI c8 1 (cR c10 0 (cR c11 7 a0))) + p1)], h)) rfl ?_
  obtain ⟨t3, hX, hK⟩ := ob_some hF
  have j4 : Ends (EX D) (u_at kl_165) (23, [some (.ref a0), some (.int p1)], [.int t3], h) QQ := by
    have hF := hK
    obtain ⟨z5, hz5, hF⟩ := ob_some hF
    obtain rfl := Option.some.inj hF
    exact en_retZ (by decide +kernel : u_at kl_165 23 = some (.ireturn, [1])) hz5 (hQ)
  have hF := hX
  refine en_ic_gt (by decide +kernel : u_at kl_165 15 = some (.if_icmp .gt 7, [22])) (fun b6 => ?_) (fun b6 => ?_)
  · replace hF := i_pos b6 hF
    refine en_segs [(22, .iconst 0, [])] (by decide +kernel) (y := (23, [some (.ref a0), some (.int p1)], [.int 0], h)) rfl ?_
    obtain rfl := Option.some.inj hF
    exact j4
  · replace hF := i_neg b6 hF
    refine en_segs [(18, .iconst 1, []), (19, .goto 4, [23])] (by decide +kernel) (y := (23, [some (.ref a0), some (.int p1)], [.int 1], h)) rfl ?_
    obtain rfl := Option.some.inj hF
    exact j4
def F_132 (c1 : Cl) (c7 : Cl) (c8 : Cl) (c10 : Cl) (c11 : Cl) (a0 : Nat) (p1 : Int32) (p2 : Int32) (p3 : Int32) : Option (Int32 × Cl × Cl × Cl) :=
  F_158 c1 c8 c10 c11 a0 p1 >>= fun r1 =>
  if r1 = 0 then
  some ((-1), c7, c8, c10)
  else
  F_160 c1 c8 c10 c11 a0 p2 >>= fun r3 =>
  if r3 = 0 then
  some ((-1), c7, c8, c10)
  else
  F_165 c8 c10 c11 a0 1 >>= fun r5 =>
  if r5 = 0 then
  some ((-1), c7, c8, c10)
  else
  F_91 c1 c8 (cR c10 0 (cR c11 7 a0)) p1 p2 >>= fun r9 =>
  if r9 = 0 then
  some ((-1), c7, c8, c10)
  else
  F_119 c1 c8 c10 (cR c11 7 a0) p1 p2 p3 >>= fun r11 =>
  some (sI c7 1 (cR c11 12 a0) 0) >>= fun c7_13 =>
  some (cI r11.1 1 (cR r11.2 0 (cR c11 7 a0)), c7_13, r11.1, r11.2)
set_option maxRecDepth 100000 in
set_option maxHeartbeats 4000000 in
/-- HeadCounts.go -/
theorem e_132 {D : Nat} {c0 c1 c2 c3 c4 c5 c6 c7 c8 c9 c10 c11 c12 c13 : Cl} {d : Ad} {h : UH} {a0 : Nat} {p1 : Int32} {p2 : Int32} {p3 : Int32} {r : (Int32 × Cl × Cl × Cl)} (hD : 5 ≤ D) (hW : HW (mkw c0 c1 c2 c3 c4 c5 c6 c7 c8 c9 c10 c11 c12 c13) d h) (ha0 : aK d a0 = (0, 11, 0)) (hF : F_132 c1 c7 c8 c10 c11 a0 p1 p2 p3 = some r) : ∃ q, EX D 132 [.ref a0, .int p1, .int p2, .int p3] h q ∧ q.1 = some (.int r.1) ∧ HW (mkw c0 c1 c2 c3 c4 c5 c6 r.2.1 r.2.2.1 c9 r.2.2.2 c11 c12 c13) d q.2 := by
  obtain ⟨D, rfl⟩ : ∃ E, D = E + 1 := ⟨D - 1, by omega⟩
  unfold F_132 at hF
  refine ex_in (kl := kl_132) (nL := 4) rfl (by decide +kernel) (Nat.le_of_ble_eq_true rfl) ?_
  obtain ⟨QQ, hQQ⟩ : ∃ QQ : UR → Prop, QQ = (fun q : UR => q.1 = some (.int r.1) ∧ HW (mkw c0 c1 c2 c3 c4 c5 c6 r.2.1 r.2.2.1 c9 r.2.2.2 c11 c12 c13) d q.2) := ⟨_, rfl⟩
  rw [← hQQ]
  have hQ : ∀ h' : UH, HW (mkw c0 c1 c2 c3 c4 c5 c6 r.2.1 r.2.2.1 c9 r.2.2.2 c11 c12 c13) d h' → QQ (some (.int r.1), h') := fun h' p => by rw [hQQ]; exact ⟨rfl, p⟩
  clear hQQ
  show Ends (EX D) (u_at kl_132) (0, [some (.ref a0), some (.int p1), some (.int p2), some (.int p3)], [], h) QQ
  refine en_segs [(0, .aload_n 0, []), (1, .iload_n 1, [])] (by decide +kernel) (y := (2, [some (.ref a0), some (.int p1), some (.int p2), some (.int p3)], [.int p1, .ref a0], h)) rfl ?_
  obtain ⟨r1, hr1, hF⟩ := ob_some hF
  refine en_vi (r := []) (by decide +kernel : u_at kl_132 2 = some (.invokevirtual 135, [158, 1, 11])) hW ha0 rfl rfl (Nat.le_of_ble_eq_true rfl) (e_158 (D := D) (by omega) hW ha0 hr1) (fun h' q => ?_)
  subst q
  refine en_if_eq (by decide +kernel : u_at kl_132 5 = some (.ifCond .eq 34, [39])) (fun b2 => ?_) (fun b2 => ?_)
  · replace hF := i_pos b2 hF
    refine en_segs [(39, .iconst (-1), [])] (by decide +kernel) (y := (40, [some (.ref a0), some (.int p1), some (.int p2), some (.int p3)], [.int (-1)], h)) rfl ?_
    obtain rfl := Option.some.inj hF
    exact en_ret (by decide +kernel : u_at kl_132 40 = some (.ireturn, [0])) rfl (hQ _ hW)
  · replace hF := i_neg b2 hF
    refine en_segs [(8, .aload_n 0, []), (9, .iload_n 2, [])] (by decide +kernel) (y := (10, [some (.ref a0), some (.int p1), some (.int p2), some (.int p3)], [.int p2, .ref a0], h)) rfl ?_
    obtain ⟨r3, hr3, hF⟩ := ob_some hF
    refine en_vi (r := []) (by decide +kernel : u_at kl_132 10 = some (.invokevirtual 161, [160, 1, 11])) hW ha0 rfl rfl (Nat.le_of_ble_eq_true rfl) (e_160 (D := D) (by omega) hW ha0 hr3) (fun h' q => ?_)
    subst q
    refine en_if_eq (by decide +kernel : u_at kl_132 13 = some (.ifCond .eq 26, [39])) (fun b4 => ?_) (fun b4 => ?_)
    · replace hF := i_pos b4 hF
      refine en_segs [(39, .iconst (-1), [])] (by decide +kernel) (y := (40, [some (.ref a0), some (.int p1), some (.int p2), some (.int p3)], [.int (-1)], h)) rfl ?_
      obtain rfl := Option.some.inj hF
      exact en_ret (by decide +kernel : u_at kl_132 40 = some (.ireturn, [0])) rfl (hQ _ hW)
    · replace hF := i_neg b4 hF
      refine en_segs [(16, .aload_n 0, []), (17, .iconst 1, [])] (by decide +kernel) (y := (18, [some (.ref a0), some (.int p1), some (.int p2), some (.int p3)], [.int 1, .ref a0], h)) rfl ?_
      obtain ⟨r5, hr5, hF⟩ := ob_some hF
      refine en_vi (r := []) (by decide +kernel : u_at kl_132 18 = some (.invokevirtual 211, [165, 1, 11])) hW ha0 rfl rfl (Nat.le_of_ble_eq_true rfl) (e_165 (D := D) (by omega) hW ha0 hr5) (fun h' q => ?_)
      subst q
      refine en_if_eq (by decide +kernel : u_at kl_132 21 = some (.ifCond .eq 18, [39])) (fun b6 => ?_) (fun b6 => ?_)
      · replace hF := i_pos b6 hF
        refine en_segs [(39, .iconst (-1), [])] (by decide +kernel) (y := (40, [some (.ref a0), some (.int p1), some (.int p2), some (.int p3)], [.int (-1)], h)) rfl ?_
        obtain rfl := Option.some.inj hF
        exact en_ret (by decide +kernel : u_at kl_132 40 = some (.ireturn, [0])) rfl (hQ _ hW)
      · replace hF := i_neg b6 hF
        refine en_segs [(24, .aload_n 0, [])] (by decide +kernel) (y := (25, [some (.ref a0), some (.int p1), some (.int p2), some (.int p3)], [.ref a0], h)) rfl ?_
        have k7 : aK d (cR c11 7 a0) = (0, 10, 0) := wf_obj hW ha0 (by decide) rfl
        refine en_get (by decide +kernel : u_at kl_132 25 = some (.getfield 52, [11, 7])) hW ha0 (by decide) rfl ?_
        have k8 : aK d (cR c10 0 (cR c11 7 a0)) = (0, 8, 0) := wf_obj hW k7 (by decide) rfl
        refine en_get (by decide +kernel : u_at kl_132 28 = some (.getfield 62, [10, 0])) hW k7 (by decide) rfl ?_
        refine en_segs [(31, .iload_n 1, []), (32, .iload_n 2, [])] (by decide +kernel) (y := (33, [some (.ref a0), some (.int p1), some (.int p2), some (.int p3)], [.int p2, .int p1, .ref (cR c10 0 (cR c11 7 a0))], h)) rfl ?_
        obtain ⟨r9, hr9, hF⟩ := ob_some hF
        refine en_vi (r := []) (by decide +kernel : u_at kl_132 33 = some (.invokevirtual 214, [91, 2, 8])) hW k8 rfl rfl (Nat.le_of_ble_eq_true rfl) (e_91 (D := D) (by omega) hW k8 hr9) (fun h' q => ?_)
        subst q
        refine en_if_ne (by decide +kernel : u_at kl_132 36 = some (.ifCond .ne 5, [41])) (fun b10 => ?_) (fun b10 => ?_)
        · replace hF := i_pos b10 hF
          refine en_segs [(39, .iconst (-1), [])] (by decide +kernel) (y := (40, [some (.ref a0), some (.int p1), some (.int p2), some (.int p3)], [.int (-1)], h)) rfl ?_
          obtain rfl := Option.some.inj hF
          exact en_ret (by decide +kernel : u_at kl_132 40 = some (.ireturn, [0])) rfl (hQ _ hW)
        · replace hF := i_neg b10 hF
          refine en_segs [(41, .aload_n 0, [])] (by decide +kernel) (y := (42, [some (.ref a0), some (.int p1), some (.int p2), some (.int p3)], [.ref a0], h)) rfl ?_
          refine en_get (by decide +kernel : u_at kl_132 42 = some (.getfield 52, [11, 7])) hW ha0 (by decide) rfl ?_
          refine en_segs [(45, .iload_n 1, []), (46, .iload_n 2, []), (47, .iload_n 3, [])] (by decide +kernel) (y := (48, [some (.ref a0), some (.int p1), some (.int p2), some (.int p3)], [.int p3, .int p2, .int p1, .ref (cR c11 7 a0)], h)) rfl ?_
          obtain ⟨r11, hr11, hF⟩ := ob_some hF
          refine en_vv (r := []) (by decide +kernel : u_at kl_132 48 = some (.invokevirtual 218, [119, 3, 10])) hW k7 rfl rfl (Nat.le_of_ble_eq_true rfl) (e_119 (D := D) (by omega) hW k7 hr11) (fun h hW => ?_)
          have hW : HW (mkw c0 c1 c2 c3 c4 c5 c6 c7 r11.1 c9 r11.2 c11 c12 c13) d h := hW
          refine en_segs [(51, .aload_n 0, [])] (by decide +kernel) (y := (52, [some (.ref a0), some (.int p1), some (.int p2), some (.int p3)], [.ref a0], h)) rfl ?_
          have k12 : aK d (cR c11 12 a0) = (0, 7, 0) := wf_obj hW ha0 (by decide) rfl
          refine en_get (by decide +kernel : u_at kl_132 52 = some (.getfield 86, [11, 12])) hW ha0 (by decide) rfl ?_
          refine en_segs [(55, .iconst 0, [])] (by decide +kernel) (y := (56, [some (.ref a0), some (.int p1), some (.int p2), some (.int p3)], [.int 0, .ref (cR c11 12 a0)], h)) rfl ?_
          obtain ⟨c7_13, hc7_13, hF⟩ := ob_some hF
          refine en_putI (by decide +kernel : u_at kl_132 56 = some (.putfield 122, [7, 1, 2])) hW k12 rfl (by decide) rfl (fun h hW => ?_)
          have hW : HW (mkw c0 c1 c2 c3 c4 c5 c6 c7_13 r11.1 c9 r11.2 c11 c12 c13) d h := by rw [← Option.some.inj hc7_13]; exact hW
          refine en_segs [(59, .aload_n 0, [])] (by decide +kernel) (y := (60, [some (.ref a0), some (.int p1), some (.int p2), some (.int p3)], [.ref a0], h)) rfl ?_
          refine en_get (by decide +kernel : u_at kl_132 60 = some (.getfield 52, [11, 7])) hW ha0 (by decide) rfl ?_
          have k14 : aK d (cR r11.2 0 (cR c11 7 a0)) = (0, 8, 0) := wf_obj hW k7 (by decide) rfl
          refine en_get (by decide +kernel : u_at kl_132 63 = some (.getfield 62, [10, 0])) hW k7 (by decide) rfl ?_
          refine en_get (by decide +kernel : u_at kl_132 66 = some (.getfield 204, [8, 1])) hW k14 (by decide) rfl ?_
          obtain rfl := Option.some.inj hF
          exact en_ret (by decide +kernel : u_at kl_132 69 = some (.ireturn, [0])) rfl (hQ _ hW)
def F_157 (c1 : Cl) (c8 : Cl) (c10 : Cl) (c11 : Cl) (a0 : Nat) : Option Int32 :=
  ((if (cI c1 0 (cR c8 0 (cR c10 0 (cR c11 7 a0)))) ≤ 0 then
  some 0
  else
  some 1) : Option (Int32)) >>= fun (t4 : Int32) =>
  zb t4 >>= fun z6 => some z6
set_option maxRecDepth 100000 in
set_option maxHeartbeats 4000000 in
/-- HeadCounts.hasHouse -/
theorem e_157 {D : Nat} {c0 c1 c2 c3 c4 c5 c6 c7 c8 c9 c10 c11 c12 c13 : Cl} {d : Ad} {h : UH} {a0 : Nat} {r : Int32} (hD : 1 ≤ D) (hW : HW (mkw c0 c1 c2 c3 c4 c5 c6 c7 c8 c9 c10 c11 c12 c13) d h) (ha0 : aK d a0 = (0, 11, 0)) (hF : F_157 c1 c8 c10 c11 a0 = some r) : ∃ q, EX D 157 [.ref a0] h q ∧ q.1 = some (.int r) ∧ h = q.2 := by
  obtain ⟨D, rfl⟩ : ∃ E, D = E + 1 := ⟨D - 1, by omega⟩
  unfold F_157 at hF
  refine ex_in (kl := kl_157) (nL := 1) rfl (by decide +kernel) (Nat.le_of_ble_eq_true rfl) ?_
  obtain ⟨QQ, hQQ⟩ : ∃ QQ : UR → Prop, QQ = (fun q : UR => q.1 = some (.int r) ∧ h = q.2) := ⟨_, rfl⟩
  rw [← hQQ]
  have hQ : QQ (some (.int r), h) := by rw [hQQ]; exact ⟨rfl, rfl⟩
  clear hQQ
  show Ends (EX D) (u_at kl_157) (0, [some (.ref a0)], [], h) QQ
  refine en_segs [(0, .aload_n 0, [])] (by decide +kernel) (y := (1, [some (.ref a0)], [.ref a0], h)) rfl ?_
  have k1 : aK d (cR c11 7 a0) = (0, 10, 0) := wf_obj hW ha0 (by decide) rfl
  refine en_get (by decide +kernel : u_at kl_157 1 = some (.getfield 52, [11, 7])) hW ha0 (by decide) rfl ?_
  have k2 : aK d (cR c10 0 (cR c11 7 a0)) = (0, 8, 0) := wf_obj hW k1 (by decide) rfl
  refine en_get (by decide +kernel : u_at kl_157 4 = some (.getfield 62, [10, 0])) hW k1 (by decide) rfl ?_
  have k3 : aK d (cR c8 0 (cR c10 0 (cR c11 7 a0))) = (0, 1, 0) := wf_obj hW k2 (by decide) rfl
  refine en_get (by decide +kernel : u_at kl_157 7 = some (.getfield 66, [8, 0])) hW k2 (by decide) rfl ?_
  refine en_get (by decide +kernel : u_at kl_157 10 = some (.getfield 288, [1, 0])) hW k3 (by decide) rfl ?_
  obtain ⟨t4, hX, hK⟩ := ob_some hF
  have j5 : Ends (EX D) (u_at kl_157) (21, [some (.ref a0)], [.int t4], h) QQ := by
    have hF := hK
    obtain ⟨z6, hz6, hF⟩ := ob_some hF
    obtain rfl := Option.some.inj hF
    exact en_retZ (by decide +kernel : u_at kl_157 21 = some (.ireturn, [1])) hz6 (hQ)
  have hF := hX
  refine en_if_le (by decide +kernel : u_at kl_157 13 = some (.ifCond .le 7, [20])) (fun b7 => ?_) (fun b7 => ?_)
  · replace hF := i_pos b7 hF
    refine en_segs [(20, .iconst 0, [])] (by decide +kernel) (y := (21, [some (.ref a0)], [.int 0], h)) rfl ?_
    obtain rfl := Option.some.inj hF
    exact j5
  · replace hF := i_neg b7 hF
    refine en_segs [(16, .iconst 1, []), (17, .goto 4, [21])] (by decide +kernel) (y := (21, [some (.ref a0)], [.int 1], h)) rfl ?_
    obtain rfl := Option.some.inj hF
    exact j5
def F_133 (c1 : Cl) (c8 : Cl) (c10 : Cl) (c11 : Cl) (a0 : Nat) : Option (Int32 × Cl × Cl) :=
  F_157 c1 c8 c10 c11 a0 >>= fun r1 =>
  if r1 = 0 then
  some ((-1), c8, c10)
  else
  F_165 c8 c10 c11 a0 1 >>= fun r3 =>
  if r3 = 0 then
  some ((-1), c8, c10)
  else
  F_119 c1 c8 c10 (cR c11 7 a0) (-1) (-1) 0 >>= fun r6 =>
  some (cI r6.1 1 (cR r6.2 0 (cR c11 7 a0)), r6.1, r6.2)
set_option maxRecDepth 100000 in
set_option maxHeartbeats 4000000 in
/-- HeadCounts.rest -/
theorem e_133 {D : Nat} {c0 c1 c2 c3 c4 c5 c6 c7 c8 c9 c10 c11 c12 c13 : Cl} {d : Ad} {h : UH} {a0 : Nat} {r : (Int32 × Cl × Cl)} (hD : 5 ≤ D) (hW : HW (mkw c0 c1 c2 c3 c4 c5 c6 c7 c8 c9 c10 c11 c12 c13) d h) (ha0 : aK d a0 = (0, 11, 0)) (hF : F_133 c1 c8 c10 c11 a0 = some r) : ∃ q, EX D 133 [.ref a0] h q ∧ q.1 = some (.int r.1) ∧ HW (mkw c0 c1 c2 c3 c4 c5 c6 c7 r.2.1 c9 r.2.2 c11 c12 c13) d q.2 := by
  obtain ⟨D, rfl⟩ : ∃ E, D = E + 1 := ⟨D - 1, by omega⟩
  unfold F_133 at hF
  refine ex_in (kl := kl_133) (nL := 1) rfl (by decide +kernel) (Nat.le_of_ble_eq_true rfl) ?_
  obtain ⟨QQ, hQQ⟩ : ∃ QQ : UR → Prop, QQ = (fun q : UR => q.1 = some (.int r.1) ∧ HW (mkw c0 c1 c2 c3 c4 c5 c6 c7 r.2.1 c9 r.2.2 c11 c12 c13) d q.2) := ⟨_, rfl⟩
  rw [← hQQ]
  have hQ : ∀ h' : UH, HW (mkw c0 c1 c2 c3 c4 c5 c6 c7 r.2.1 c9 r.2.2 c11 c12 c13) d h' → QQ (some (.int r.1), h') := fun h' p => by rw [hQQ]; exact ⟨rfl, p⟩
  clear hQQ
  show Ends (EX D) (u_at kl_133) (0, [some (.ref a0)], [], h) QQ
  refine en_segs [(0, .aload_n 0, [])] (by decide +kernel) (y := (1, [some (.ref a0)], [.ref a0], h)) rfl ?_
  obtain ⟨r1, hr1, hF⟩ := ob_some hF
  refine en_vi (r := []) (by decide +kernel : u_at kl_133 1 = some (.invokevirtual 222, [157, 0, 11])) hW ha0 rfl rfl (Nat.le_of_ble_eq_true rfl) (e_157 (D := D) (by omega) hW ha0 hr1) (fun h' q => ?_)
  subst q
  refine en_if_eq (by decide +kernel : u_at kl_133 4 = some (.ifCond .eq 11, [15])) (fun b2 => ?_) (fun b2 => ?_)
  · replace hF := i_pos b2 hF
    refine en_segs [(15, .iconst (-1), [])] (by decide +kernel) (y := (16, [some (.ref a0)], [.int (-1)], h)) rfl ?_
    obtain rfl := Option.some.inj hF
    exact en_ret (by decide +kernel : u_at kl_133 16 = some (.ireturn, [0])) rfl (hQ _ hW)
  · replace hF := i_neg b2 hF
    refine en_segs [(7, .aload_n 0, []), (8, .iconst 1, [])] (by decide +kernel) (y := (9, [some (.ref a0)], [.int 1, .ref a0], h)) rfl ?_
    obtain ⟨r3, hr3, hF⟩ := ob_some hF
    refine en_vi (r := []) (by decide +kernel : u_at kl_133 9 = some (.invokevirtual 211, [165, 1, 11])) hW ha0 rfl rfl (Nat.le_of_ble_eq_true rfl) (e_165 (D := D) (by omega) hW ha0 hr3) (fun h' q => ?_)
    subst q
    refine en_if_ne (by decide +kernel : u_at kl_133 12 = some (.ifCond .ne 5, [17])) (fun b4 => ?_) (fun b4 => ?_)
    · replace hF := i_pos b4 hF
      refine en_segs [(15, .iconst (-1), [])] (by decide +kernel) (y := (16, [some (.ref a0)], [.int (-1)], h)) rfl ?_
      obtain rfl := Option.some.inj hF
      exact en_ret (by decide +kernel : u_at kl_133 16 = some (.ireturn, [0])) rfl (hQ _ hW)
    · replace hF := i_neg b4 hF
      refine en_segs [(17, .aload_n 0, [])] (by decide +kernel) (y := (18, [some (.ref a0)], [.ref a0], h)) rfl ?_
      have k5 : aK d (cR c11 7 a0) = (0, 10, 0) := wf_obj hW ha0 (by decide) rfl
      refine en_get (by decide +kernel : u_at kl_133 18 = some (.getfield 52, [11, 7])) hW ha0 (by decide) rfl ?_
      refine en_segs [(21, .iconst (-1), []), (22, .iconst (-1), []), (23, .iconst 0, [])] (by decide +kernel) (y := (24, [some (.ref a0)], [.int 0, .int (-1), .int (-1), .ref (cR c11 7 a0)], h)) rfl ?_
      obtain ⟨r6, hr6, hF⟩ := ob_some hF
      refine en_vv (r := []) (by decide +kernel : u_at kl_133 24 = some (.invokevirtual 218, [119, 3, 10])) hW k5 rfl rfl (Nat.le_of_ble_eq_true rfl) (e_119 (D := D) (by omega) hW k5 hr6) (fun h hW => ?_)
      have hW : HW (mkw c0 c1 c2 c3 c4 c5 c6 c7 r6.1 c9 r6.2 c11 c12 c13) d h := hW
      refine en_segs [(27, .aload_n 0, [])] (by decide +kernel) (y := (28, [some (.ref a0)], [.ref a0], h)) rfl ?_
      refine en_get (by decide +kernel : u_at kl_133 28 = some (.getfield 52, [11, 7])) hW ha0 (by decide) rfl ?_
      have k7 : aK d (cR r6.2 0 (cR c11 7 a0)) = (0, 8, 0) := wf_obj hW k5 (by decide) rfl
      refine en_get (by decide +kernel : u_at kl_133 31 = some (.getfield 62, [10, 0])) hW k5 (by decide) rfl ?_
      refine en_get (by decide +kernel : u_at kl_133 34 = some (.getfield 204, [8, 1])) hW k7 (by decide) rfl ?_
      obtain rfl := Option.some.inj hF
      exact en_ret (by decide +kernel : u_at kl_133 37 = some (.ireturn, [0])) rfl (hQ _ hW)
def F_134 (c1 : Cl) (c7 : Cl) (c8 : Cl) (c10 : Cl) (c11 : Cl) (a0 : Nat) (p1 : Int32) : Option (Int32 × Cl × Cl) :=
  F_158 c1 c8 c10 c11 a0 p1 >>= fun r1 =>
  if r1 = 0 then
  some (0, c7, c8)
  else
  F_83 c8 (cR c10 0 (cR c11 7 a0)) p1 >>= fun r5 =>
  if r5 = 0 then
  some (0, c7, c8)
  else
  F_90 c1 c8 (cR c10 0 (cR c11 7 a0)) p1 >>= fun r7 =>
  some (sI c7 1 (cR c11 12 a0) 0) >>= fun c7_9 =>
  some (1, c7_9, r7)
set_option maxRecDepth 100000 in
set_option maxHeartbeats 4000000 in
/-- HeadCounts.die -/
theorem e_134 {D : Nat} {c0 c1 c2 c3 c4 c5 c6 c7 c8 c9 c10 c11 c12 c13 : Cl} {d : Ad} {h : UH} {a0 : Nat} {p1 : Int32} {r : (Int32 × Cl × Cl)} (hD : 4 ≤ D) (hW : HW (mkw c0 c1 c2 c3 c4 c5 c6 c7 c8 c9 c10 c11 c12 c13) d h) (ha0 : aK d a0 = (0, 11, 0)) (hF : F_134 c1 c7 c8 c10 c11 a0 p1 = some r) : ∃ q, EX D 134 [.ref a0, .int p1] h q ∧ q.1 = some (.int r.1) ∧ HW (mkw c0 c1 c2 c3 c4 c5 c6 r.2.1 r.2.2 c9 c10 c11 c12 c13) d q.2 := by
  obtain ⟨D, rfl⟩ : ∃ E, D = E + 1 := ⟨D - 1, by omega⟩
  unfold F_134 at hF
  refine ex_in (kl := kl_134) (nL := 2) rfl (by decide +kernel) (Nat.le_of_ble_eq_true rfl) ?_
  obtain ⟨QQ, hQQ⟩ : ∃ QQ : UR → Prop, QQ = (fun q : UR => q.1 = some (.int r.1) ∧ HW (mkw c0 c1 c2 c3 c4 c5 c6 r.2.1 r.2.2 c9 c10 c11 c12 c13) d q.2) := ⟨_, rfl⟩
  rw [← hQQ]
  have hQ : ∀ h' : UH, HW (mkw c0 c1 c2 c3 c4 c5 c6 r.2.1 r.2.2 c9 c10 c11 c12 c13) d h' → QQ (some (.int r.1), h') := fun h' p => by rw [hQQ]; exact ⟨rfl, p⟩
  clear hQQ
  show Ends (EX D) (u_at kl_134) (0, [some (.ref a0), some (.int p1)], [], h) QQ
  refine en_segs [(0, .aload_n 0, []), (1, .iload_n 1, [])] (by decide +kernel) (y := (2, [some (.ref a0), some (.int p1)], [.int p1, .ref a0], h)) rfl ?_
  obtain ⟨r1, hr1, hF⟩ := ob_some hF
  refine en_vi (r := []) (by decide +kernel : u_at kl_134 2 = some (.invokevirtual 135, [158, 1, 11])) hW ha0 rfl rfl (Nat.le_of_ble_eq_true rfl) (e_158 (D := D) (by omega) hW ha0 hr1) (fun h' q => ?_)
  subst q
  refine en_if_eq (by decide +kernel : u_at kl_134 5 = some (.ifCond .eq 17, [22])) (fun b2 => ?_) (fun b2 => ?_)
  · replace hF := i_pos b2 hF
    refine en_segs [(22, .iconst 0, [])] (by decide +kernel) (y := (23, [some (.ref a0), some (.int p1)], [.int 0], h)) rfl ?_
    obtain rfl := Option.some.inj hF
    exact en_ret (by decide +kernel : u_at kl_134 23 = some (.ireturn, [1])) rfl (hQ _ hW)
  · replace hF := i_neg b2 hF
    refine en_segs [(8, .aload_n 0, [])] (by decide +kernel) (y := (9, [some (.ref a0), some (.int p1)], [.ref a0], h)) rfl ?_
    have k3 : aK d (cR c11 7 a0) = (0, 10, 0) := wf_obj hW ha0 (by decide) rfl
    refine en_get (by decide +kernel : u_at kl_134 9 = some (.getfield 52, [11, 7])) hW ha0 (by decide) rfl ?_
    have k4 : aK d (cR c10 0 (cR c11 7 a0)) = (0, 8, 0) := wf_obj hW k3 (by decide) rfl
    refine en_get (by decide +kernel : u_at kl_134 12 = some (.getfield 62, [10, 0])) hW k3 (by decide) rfl ?_
    refine en_segs [(15, .iload_n 1, [])] (by decide +kernel) (y := (16, [some (.ref a0), some (.int p1)], [.int p1, .ref (cR c10 0 (cR c11 7 a0))], h)) rfl ?_
    obtain ⟨r5, hr5, hF⟩ := ob_some hF
    refine en_vi (r := []) (by decide +kernel : u_at kl_134 16 = some (.invokevirtual 155, [83, 1, 8])) hW k4 rfl rfl (Nat.le_of_ble_eq_true rfl) (e_83 (D := D) (by omega) hW k4 hr5) (fun h' q => ?_)
    subst q
    refine en_if_ne (by decide +kernel : u_at kl_134 19 = some (.ifCond .ne 5, [24])) (fun b6 => ?_) (fun b6 => ?_)
    · replace hF := i_pos b6 hF
      refine en_segs [(22, .iconst 0, [])] (by decide +kernel) (y := (23, [some (.ref a0), some (.int p1)], [.int 0], h)) rfl ?_
      obtain rfl := Option.some.inj hF
      exact en_ret (by decide +kernel : u_at kl_134 23 = some (.ireturn, [1])) rfl (hQ _ hW)
    · replace hF := i_neg b6 hF
      refine en_segs [(24, .aload_n 0, [])] (by decide +kernel) (y := (25, [some (.ref a0), some (.int p1)], [.ref a0], h)) rfl ?_
      refine en_get (by decide +kernel : u_at kl_134 25 = some (.getfield 52, [11, 7])) hW ha0 (by decide) rfl ?_
      refine en_get (by decide +kernel : u_at kl_134 28 = some (.getfield 62, [10, 0])) hW k3 (by decide) rfl ?_
      refine en_segs [(31, .iload_n 1, [])] (by decide +kernel) (y := (32, [some (.ref a0), some (.int p1)], [.int p1, .ref (cR c10 0 (cR c11 7 a0))], h)) rfl ?_
      obtain ⟨r7, hr7, hF⟩ := ob_some hF
      refine en_vv (r := []) (by decide +kernel : u_at kl_134 32 = some (.invokevirtual 226, [90, 1, 8])) hW k4 rfl rfl (Nat.le_of_ble_eq_true rfl) (e_90 (D := D) (by omega) hW k4 hr7) (fun h hW => ?_)
      have hW : HW (mkw c0 c1 c2 c3 c4 c5 c6 c7 r7 c9 c10 c11 c12 c13) d h := hW
      refine en_segs [(35, .aload_n 0, [])] (by decide +kernel) (y := (36, [some (.ref a0), some (.int p1)], [.ref a0], h)) rfl ?_
      have k8 : aK d (cR c11 12 a0) = (0, 7, 0) := wf_obj hW ha0 (by decide) rfl
      refine en_get (by decide +kernel : u_at kl_134 36 = some (.getfield 86, [11, 12])) hW ha0 (by decide) rfl ?_
      refine en_segs [(39, .iconst 0, [])] (by decide +kernel) (y := (40, [some (.ref a0), some (.int p1)], [.int 0, .ref (cR c11 12 a0)], h)) rfl ?_
      obtain ⟨c7_9, hc7_9, hF⟩ := ob_some hF
      refine en_putI (by decide +kernel : u_at kl_134 40 = some (.putfield 122, [7, 1, 2])) hW k8 rfl (by decide) rfl (fun h hW => ?_)
      have hW : HW (mkw c0 c1 c2 c3 c4 c5 c6 c7_9 r7 c9 c10 c11 c12 c13) d h := by rw [← Option.some.inj hc7_9]; exact hW
      refine en_segs [(43, .iconst 1, [])] (by decide +kernel) (y := (44, [some (.ref a0), some (.int p1)], [.int 1], h)) rfl ?_
      obtain rfl := Option.some.inj hF
      exact en_ret (by decide +kernel : u_at kl_134 44 = some (.ireturn, [1])) rfl (hQ _ hW)
def F_135 (c1 : Cl) (c7 : Cl) (c8 : Cl) (c10 : Cl) (c11 : Cl) (a0 : Nat) (p1 : Int32) (p2 : Int32) : Option (Int32 × Cl × Cl) :=
  F_161 c1 c8 c10 c11 a0 p1 >>= fun r1 =>
  if r1 = 0 then
  some (0, c7, c8)
  else
  F_85 c8 (cR c10 0 (cR c11 7 a0)) p1 >>= fun r5 =>
  if r5 = p2 then
  some (0, c7, c8)
  else
  F_89 c1 c8 (cR c10 0 (cR c11 7 a0)) p1 >>= fun r7 =>
  some (sI c7 1 (cR c11 12 a0) 0) >>= fun c7_9 =>
  some (1, c7_9, r7)
set_option maxRecDepth 100000 in
set_option maxHeartbeats 4000000 in
/-- HeadCounts.open -/
theorem e_135 {D : Nat} {c0 c1 c2 c3 c4 c5 c6 c7 c8 c9 c10 c11 c12 c13 : Cl} {d : Ad} {h : UH} {a0 : Nat} {p1 : Int32} {p2 : Int32} {r : (Int32 × Cl × Cl)} (hD : 4 ≤ D) (hW : HW (mkw c0 c1 c2 c3 c4 c5 c6 c7 c8 c9 c10 c11 c12 c13) d h) (ha0 : aK d a0 = (0, 11, 0)) (hF : F_135 c1 c7 c8 c10 c11 a0 p1 p2 = some r) : ∃ q, EX D 135 [.ref a0, .int p1, .int p2] h q ∧ q.1 = some (.int r.1) ∧ HW (mkw c0 c1 c2 c3 c4 c5 c6 r.2.1 r.2.2 c9 c10 c11 c12 c13) d q.2 := by
  obtain ⟨D, rfl⟩ : ∃ E, D = E + 1 := ⟨D - 1, by omega⟩
  unfold F_135 at hF
  refine ex_in (kl := kl_135) (nL := 3) rfl (by decide +kernel) (Nat.le_of_ble_eq_true rfl) ?_
  obtain ⟨QQ, hQQ⟩ : ∃ QQ : UR → Prop, QQ = (fun q : UR => q.1 = some (.int r.1) ∧ HW (mkw c0 c1 c2 c3 c4 c5 c6 r.2.1 r.2.2 c9 c10 c11 c12 c13) d q.2) := ⟨_, rfl⟩
  rw [← hQQ]
  have hQ : ∀ h' : UH, HW (mkw c0 c1 c2 c3 c4 c5 c6 r.2.1 r.2.2 c9 c10 c11 c12 c13) d h' → QQ (some (.int r.1), h') := fun h' p => by rw [hQQ]; exact ⟨rfl, p⟩
  clear hQQ
  show Ends (EX D) (u_at kl_135) (0, [some (.ref a0), some (.int p1), some (.int p2)], [], h) QQ
  refine en_segs [(0, .aload_n 0, []), (1, .iload_n 1, [])] (by decide +kernel) (y := (2, [some (.ref a0), some (.int p1), some (.int p2)], [.int p1, .ref a0], h)) rfl ?_
  obtain ⟨r1, hr1, hF⟩ := ob_some hF
  refine en_vi (r := []) (by decide +kernel : u_at kl_135 2 = some (.invokevirtual 183, [161, 1, 11])) hW ha0 rfl rfl (Nat.le_of_ble_eq_true rfl) (e_161 (D := D) (by omega) hW ha0 hr1) (fun h' q => ?_)
  subst q
  refine en_if_eq (by decide +kernel : u_at kl_135 5 = some (.ifCond .eq 18, [23])) (fun b2 => ?_) (fun b2 => ?_)
  · replace hF := i_pos b2 hF
    refine en_segs [(23, .iconst 0, [])] (by decide +kernel) (y := (24, [some (.ref a0), some (.int p1), some (.int p2)], [.int 0], h)) rfl ?_
    obtain rfl := Option.some.inj hF
    exact en_ret (by decide +kernel : u_at kl_135 24 = some (.ireturn, [1])) rfl (hQ _ hW)
  · replace hF := i_neg b2 hF
    refine en_segs [(8, .aload_n 0, [])] (by decide +kernel) (y := (9, [some (.ref a0), some (.int p1), some (.int p2)], [.ref a0], h)) rfl ?_
    have k3 : aK d (cR c11 7 a0) = (0, 10, 0) := wf_obj hW ha0 (by decide) rfl
    refine en_get (by decide +kernel : u_at kl_135 9 = some (.getfield 52, [11, 7])) hW ha0 (by decide) rfl ?_
    have k4 : aK d (cR c10 0 (cR c11 7 a0)) = (0, 8, 0) := wf_obj hW k3 (by decide) rfl
    refine en_get (by decide +kernel : u_at kl_135 12 = some (.getfield 62, [10, 0])) hW k3 (by decide) rfl ?_
    refine en_segs [(15, .iload_n 1, [])] (by decide +kernel) (y := (16, [some (.ref a0), some (.int p1), some (.int p2)], [.int p1, .ref (cR c10 0 (cR c11 7 a0))], h)) rfl ?_
    obtain ⟨r5, hr5, hF⟩ := ob_some hF
    refine en_vi (r := []) (by decide +kernel : u_at kl_135 16 = some (.invokevirtual 192, [85, 1, 8])) hW k4 rfl rfl (Nat.le_of_ble_eq_true rfl) (e_85 (D := D) (by omega) hW k4 hr5) (fun h' q => ?_)
    subst q
    refine en_segs [(19, .iload_n 2, [])] (by decide +kernel) (y := (20, [some (.ref a0), some (.int p1), some (.int p2)], [.int p2, .int r5], h)) rfl ?_
    refine en_ic_ne (by decide +kernel : u_at kl_135 20 = some (.if_icmp .ne 5, [25])) (fun b6 => ?_) (fun b6 => ?_)
    · replace hF := i_pos b6 hF
      refine en_segs [(23, .iconst 0, [])] (by decide +kernel) (y := (24, [some (.ref a0), some (.int p1), some (.int p2)], [.int 0], h)) rfl ?_
      obtain rfl := Option.some.inj hF
      exact en_ret (by decide +kernel : u_at kl_135 24 = some (.ireturn, [1])) rfl (hQ _ hW)
    · replace hF := i_neg b6 hF
      refine en_segs [(25, .aload_n 0, [])] (by decide +kernel) (y := (26, [some (.ref a0), some (.int p1), some (.int p2)], [.ref a0], h)) rfl ?_
      refine en_get (by decide +kernel : u_at kl_135 26 = some (.getfield 52, [11, 7])) hW ha0 (by decide) rfl ?_
      refine en_get (by decide +kernel : u_at kl_135 29 = some (.getfield 62, [10, 0])) hW k3 (by decide) rfl ?_
      refine en_segs [(32, .iload_n 1, [])] (by decide +kernel) (y := (33, [some (.ref a0), some (.int p1), some (.int p2)], [.int p1, .ref (cR c10 0 (cR c11 7 a0))], h)) rfl ?_
      obtain ⟨r7, hr7, hF⟩ := ob_some hF
      refine en_vv (r := []) (by decide +kernel : u_at kl_135 33 = some (.invokevirtual 229, [89, 1, 8])) hW k4 rfl rfl (Nat.le_of_ble_eq_true rfl) (e_89 (D := D) (by omega) hW k4 hr7) (fun h hW => ?_)
      have hW : HW (mkw c0 c1 c2 c3 c4 c5 c6 c7 r7 c9 c10 c11 c12 c13) d h := hW
      refine en_segs [(36, .aload_n 0, [])] (by decide +kernel) (y := (37, [some (.ref a0), some (.int p1), some (.int p2)], [.ref a0], h)) rfl ?_
      have k8 : aK d (cR c11 12 a0) = (0, 7, 0) := wf_obj hW ha0 (by decide) rfl
      refine en_get (by decide +kernel : u_at kl_135 37 = some (.getfield 86, [11, 12])) hW ha0 (by decide) rfl ?_
      refine en_segs [(40, .iconst 0, [])] (by decide +kernel) (y := (41, [some (.ref a0), some (.int p1), some (.int p2)], [.int 0, .ref (cR c11 12 a0)], h)) rfl ?_
      obtain ⟨c7_9, hc7_9, hF⟩ := ob_some hF
      refine en_putI (by decide +kernel : u_at kl_135 41 = some (.putfield 122, [7, 1, 2])) hW k8 rfl (by decide) rfl (fun h hW => ?_)
      have hW : HW (mkw c0 c1 c2 c3 c4 c5 c6 c7_9 r7 c9 c10 c11 c12 c13) d h := by rw [← Option.some.inj hc7_9]; exact hW
      refine en_segs [(44, .iconst 1, [])] (by decide +kernel) (y := (45, [some (.ref a0), some (.int p1), some (.int p2)], [.int 1], h)) rfl ?_
      obtain rfl := Option.some.inj hF
      exact en_ret (by decide +kernel : u_at kl_135 45 = some (.ireturn, [1])) rfl (hQ _ hW)
def G_166 (c1 : Cl) (c8 : Cl) (c10 : Cl) (c11 : Cl) (c13 : Cl) (d : Ad) (a0 : Nat) (a1 : Nat) (lab : Nat) (xs : List Int32) (ys : List Int64) (zs : List Nat) (c4 : Cl) : Option (Cl × Cl × Cl) := match lab, xs, ys, zs with
  | 0, [x2], [], [] =>
    if (cI c1 2 (cR c8 0 (cR c10 0 (cR c11 7 a0)))) ≤ x2 then
    F_119 c1 c8 c10 (cR c11 7 a0) (-1) (-1) 0 >>= fun r5 =>
    some (c4, r5.1, r5.2)
    else
    F_83 c8 (cR c10 0 (cR c11 7 a0)) x2 >>= fun r6 =>
    if r6 = 0 then
    G_166 c1 c8 c10 c11 c13 d a0 a1 0 [x2 + 1] [] [] c4
    else
    F_37 c1 c4 c8 c13 d a1 (cR c10 0 (cR c11 7 a0)) x2 >>= fun r8 =>
    if r8.1 = (-1) then
    G_166 c1 c8 c10 c11 c13 d a0 a1 0 [x2 + 1] [] [] r8.2
    else
    F_119 c1 c8 c10 (cR c11 7 a0) x2 r8.1 0 >>= fun r10 =>
    some (r8.2, r10.1, r10.2)
  | _, _, _, _ => none
partial_fixpoint
set_option maxRecDepth 100000 in
set_option maxHeartbeats 4000000 in
theorem g_166 {D : Nat} (hD : 7 ≤ D + 1) {c0 c1 c2 c3 c5 c6 c7 c8 c9 c10 c11 c12 c13 : Cl} {d : Ad} {a0 : Nat} {a1 : Nat} (ha0 : aK d a0 = (0, 11, 0)) (ha1 : aK d a1 = (0, 4, 0)) : ∀ (lab : Nat) (xs : List Int32) (ys : List Int64) (zs : List Nat) (c4 : Cl) (r : (Cl × Cl × Cl)), G_166 c1 c8 c10 c11 c13 d a0 a1 lab xs ys zs c4 = some r →
    (∀ (x2 : Int32), lab = 0 → xs = [x2] → ys = [] → zs = [] → ∀ h : UH, HW (mkw c0 c1 c2 c3 c4 c5 c6 c7 c8 c9 c10 c11 c12 c13) d h → ∀ QQ : UR → Prop, (∀ h' : UH, HW (mkw c0 c1 c2 c3 r.1 c5 c6 c7 r.2.1 c9 r.2.2 c11 c12 c13) d h' → QQ (none, h')) → Ends (EX D) (u_at kl_166) (2, [some (.ref a0), some (.ref a1), some (.int x2), none], [], h) QQ) := by
  refine G_166.partial_correctness _ _ _ _ _ _ _ _ (motive := fun lab xs ys zs c4 r =>
    (∀ (x2 : Int32), lab = 0 → xs = [x2] → ys = [] → zs = [] → ∀ h : UH, HW (mkw c0 c1 c2 c3 c4 c5 c6 c7 c8 c9 c10 c11 c12 c13) d h → ∀ QQ : UR → Prop, (∀ h' : UH, HW (mkw c0 c1 c2 c3 r.1 c5 c6 c7 r.2.1 c9 r.2.2 c11 c12 c13) d h' → QQ (none, h')) → Ends (EX D) (u_at kl_166) (2, [some (.ref a0), some (.ref a1), some (.int x2), none], [], h) QQ)) ?_
  intro G ih lab xs ys zs c4 r hF
  · intro x2 e1 e2 e3 e4 h hW QQ hQ
    subst e1 e2 e3 e4
    refine en_segs [(2, .iload_n 2, []), (3, .aload_n 0, [])] (by decide +kernel) (y := (4, [some (.ref a0), some (.ref a1), some (.int x2), none], [.ref a0, .int x2], h)) rfl ?_
    have k1 : aK d (cR c11 7 a0) = (0, 10, 0) := wf_obj hW ha0 (by decide) rfl
    refine en_get (by decide +kernel : u_at kl_166 4 = some (.getfield 52, [11, 7])) hW ha0 (by decide) rfl ?_
    have k2 : aK d (cR c10 0 (cR c11 7 a0)) = (0, 8, 0) := wf_obj hW k1 (by decide) rfl
    refine en_get (by decide +kernel : u_at kl_166 7 = some (.getfield 62, [10, 0])) hW k1 (by decide) rfl ?_
    have k3 : aK d (cR c8 0 (cR c10 0 (cR c11 7 a0))) = (0, 1, 0) := wf_obj hW k2 (by decide) rfl
    refine en_get (by decide +kernel : u_at kl_166 10 = some (.getfield 66, [8, 0])) hW k2 (by decide) rfl ?_
    refine en_get (by decide +kernel : u_at kl_166 13 = some (.getfield 126, [1, 2])) hW k3 (by decide) rfl ?_
    refine en_ic_ge (by decide +kernel : u_at kl_166 16 = some (.if_icmp .ge 52, [68])) (fun b4 => ?_) (fun b4 => ?_)
    · replace hF := i_pos b4 hF
      refine en_segs [(68, .aload_n 0, [])] (by decide +kernel) (y := (69, [some (.ref a0), some (.ref a1), some (.int x2), none], [.ref a0], h)) rfl ?_
      refine en_get (by decide +kernel : u_at kl_166 69 = some (.getfield 52, [11, 7])) hW ha0 (by decide) rfl ?_
      refine en_segs [(72, .iconst (-1), []), (73, .iconst (-1), []), (74, .iconst 0, [])] (by decide +kernel) (y := (75, [some (.ref a0), some (.ref a1), some (.int x2), none], [.int 0, .int (-1), .int (-1), .ref (cR c11 7 a0)], h)) rfl ?_
      obtain ⟨r5, hr5, hF⟩ := ob_some hF
      refine en_vv (r := []) (by decide +kernel : u_at kl_166 75 = some (.invokevirtual 218, [119, 3, 10])) hW k1 rfl rfl (Nat.le_of_ble_eq_true rfl) (e_119 (D := D) (by omega) hW k1 hr5) (fun h hW => ?_)
      have hW : HW (mkw c0 c1 c2 c3 c4 c5 c6 c7 r5.1 c9 r5.2 c11 c12 c13) d h := hW
      obtain rfl := Option.some.inj hF
      exact en_ret (by decide +kernel : u_at kl_166 78 = some (.return_, [])) rfl (hQ _ hW)
    · replace hF := i_neg b4 hF
      refine en_segs [(19, .aload_n 0, [])] (by decide +kernel) (y := (20, [some (.ref a0), some (.ref a1), some (.int x2), none], [.ref a0], h)) rfl ?_
      refine en_get (by decide +kernel : u_at kl_166 20 = some (.getfield 52, [11, 7])) hW ha0 (by decide) rfl ?_
      refine en_get (by decide +kernel : u_at kl_166 23 = some (.getfield 62, [10, 0])) hW k1 (by decide) rfl ?_
      refine en_segs [(26, .iload_n 2, [])] (by decide +kernel) (y := (27, [some (.ref a0), some (.ref a1), some (.int x2), none], [.int x2, .ref (cR c10 0 (cR c11 7 a0))], h)) rfl ?_
      obtain ⟨r6, hr6, hF⟩ := ob_some hF
      refine en_vi (r := []) (by decide +kernel : u_at kl_166 27 = some (.invokevirtual 155, [83, 1, 8])) hW k2 rfl rfl (Nat.le_of_ble_eq_true rfl) (e_83 (D := D) (by omega) hW k2 hr6) (fun h' q => ?_)
      subst q
      refine en_if_eq (by decide +kernel : u_at kl_166 30 = some (.ifCond .eq 32, [62])) (fun b7 => ?_) (fun b7 => ?_)
      · replace hF := i_pos b7 hF
        refine en_segs [(62, .iinc 2 1, []), (65, .goto (-63), [2])] (by decide +kernel) (y := (2, [some (.ref a0), some (.ref a1), some (.int (x2 + 1)), none], [], h)) rfl ?_
        exact (ih _ _ _ _ _ _ hF) _ rfl rfl rfl rfl  _ hW _ hQ
      · replace hF := i_neg b7 hF
        refine en_segs [(33, .aload_n 1, []), (34, .aload_n 0, [])] (by decide +kernel) (y := (35, [some (.ref a0), some (.ref a1), some (.int x2), none], [.ref a0, .ref a1], h)) rfl ?_
        refine en_get (by decide +kernel : u_at kl_166 35 = some (.getfield 52, [11, 7])) hW ha0 (by decide) rfl ?_
        refine en_get (by decide +kernel : u_at kl_166 38 = some (.getfield 62, [10, 0])) hW k1 (by decide) rfl ?_
        refine en_segs [(41, .iload_n 2, [])] (by decide +kernel) (y := (42, [some (.ref a0), some (.ref a1), some (.int x2), none], [.int x2, .ref (cR c10 0 (cR c11 7 a0)), .ref a1], h)) rfl ?_
        obtain ⟨r8, hr8, hF⟩ := ob_some hF
        refine en_vi (r := []) (by decide +kernel : u_at kl_166 42 = some (.invokevirtual 248, [37, 2, 4])) hW ha1 rfl rfl (Nat.le_of_ble_eq_true rfl) (e_37 (D := D) (by omega) hW ha1 k2 hr8) (fun h hW => ?_)
        have hW : HW (mkw c0 c1 c2 c3 r8.2 c5 c6 c7 c8 c9 c10 c11 c12 c13) d h := hW
        refine en_segs [(45, .istore_n 3, []), (46, .iload_n 3, []), (47, .iconst (-1), [])] (by decide +kernel) (y := (48, [some (.ref a0), some (.ref a1), some (.int x2), some (.int r8.1)], [.int (-1), .int r8.1], h)) rfl ?_
        refine en_ic_eq (by decide +kernel : u_at kl_166 48 = some (.if_icmp .eq 14, [62])) (fun b9 => ?_) (fun b9 => ?_)
        · replace hF := i_pos b9 hF
          refine en_segs [(62, .iinc 2 1, []), (65, .goto (-63), [2])] (by decide +kernel) (y := (2, [some (.ref a0), some (.ref a1), some (.int (x2 + 1)), some (.int r8.1)], [], h)) rfl ?_
          refine en_fg (fg_k (fg_k (fg_k (fg_d fg_0)))) ?_
          exact (ih _ _ _ _ _ _ hF) _ rfl rfl rfl rfl  _ hW _ hQ
        · replace hF := i_neg b9 hF
          refine en_segs [(51, .aload_n 0, [])] (by decide +kernel) (y := (52, [some (.ref a0), some (.ref a1), some (.int x2), some (.int r8.1)], [.ref a0], h)) rfl ?_
          refine en_get (by decide +kernel : u_at kl_166 52 = some (.getfield 52, [11, 7])) hW ha0 (by decide) rfl ?_
          refine en_segs [(55, .iload_n 2, []), (56, .iload_n 3, []), (57, .iconst 0, [])] (by decide +kernel) (y := (58, [some (.ref a0), some (.ref a1), some (.int x2), some (.int r8.1)], [.int 0, .int r8.1, .int x2, .ref (cR c11 7 a0)], h)) rfl ?_
          obtain ⟨r10, hr10, hF⟩ := ob_some hF
          refine en_vv (r := []) (by decide +kernel : u_at kl_166 58 = some (.invokevirtual 218, [119, 3, 10])) hW k1 rfl rfl (Nat.le_of_ble_eq_true rfl) (e_119 (D := D) (by omega) hW k1 hr10) (fun h hW => ?_)
          have hW : HW (mkw c0 c1 c2 c3 r8.2 c5 c6 c7 r10.1 c9 r10.2 c11 c12 c13) d h := hW
          obtain rfl := Option.some.inj hF
          exact en_ret (by decide +kernel : u_at kl_166 61 = some (.return_, [])) rfl (hQ _ hW)
def F_166 (c1 : Cl) (c4 : Cl) (c8 : Cl) (c10 : Cl) (c11 : Cl) (c13 : Cl) (d : Ad) (a0 : Nat) (a1 : Nat) : Option (Cl × Cl × Cl) :=
  G_166 c1 c8 c10 c11 c13 d a0 a1 0 [0] [] [] c4
set_option maxRecDepth 100000 in
set_option maxHeartbeats 4000000 in
/-- HeadCounts.passByRule -/
theorem e_166 {D : Nat} {c0 c1 c2 c3 c4 c5 c6 c7 c8 c9 c10 c11 c12 c13 : Cl} {d : Ad} {h : UH} {a0 : Nat} {a1 : Nat} {r : (Cl × Cl × Cl)} (hD : 7 ≤ D) (hW : HW (mkw c0 c1 c2 c3 c4 c5 c6 c7 c8 c9 c10 c11 c12 c13) d h) (ha0 : aK d a0 = (0, 11, 0)) (ha1 : aK d a1 = (0, 4, 0)) (hF : F_166 c1 c4 c8 c10 c11 c13 d a0 a1 = some r) : ∃ q, EX D 166 [.ref a0, .ref a1] h q ∧ q.1 = none ∧ HW (mkw c0 c1 c2 c3 r.1 c5 c6 c7 r.2.1 c9 r.2.2 c11 c12 c13) d q.2 := by
  obtain ⟨D, rfl⟩ : ∃ E, D = E + 1 := ⟨D - 1, by omega⟩
  unfold F_166 at hF
  refine ex_in (kl := kl_166) (nL := 4) rfl (by decide +kernel) (Nat.le_of_ble_eq_true rfl) ?_
  obtain ⟨QQ, hQQ⟩ : ∃ QQ : UR → Prop, QQ = (fun q : UR => q.1 = none ∧ HW (mkw c0 c1 c2 c3 r.1 c5 c6 c7 r.2.1 c9 r.2.2 c11 c12 c13) d q.2) := ⟨_, rfl⟩
  rw [← hQQ]
  have hQ : ∀ h' : UH, HW (mkw c0 c1 c2 c3 r.1 c5 c6 c7 r.2.1 c9 r.2.2 c11 c12 c13) d h' → QQ (none, h') := fun h' p => by rw [hQQ]; exact ⟨rfl, p⟩
  clear hQQ
  show Ends (EX D) (u_at kl_166) (0, [some (.ref a0), some (.ref a1), none, none], [], h) QQ
  refine en_segs [(0, .iconst 0, []), (1, .istore_n 2, [])] (by decide +kernel) (y := (2, [some (.ref a0), some (.ref a1), some (.int 0), none], [], h)) rfl ?_
  exact (g_166 (D := D) hD (d := d) ha0 ha1 _ _ _ _ _ _ hF) _ rfl rfl rfl rfl  _ hW _ hQ
def F_159 (c1 : Cl) (c8 : Cl) (c10 : Cl) (c11 : Cl) (a0 : Nat) (p1 : Int32) : Option Int32 :=
  F_158 c1 c8 c10 c11 a0 p1 >>= fun r1 =>
  ((if r1 = 0 then
  some 0
  else
  F_83 c8 (cR c10 0 (cR c11 7 a0)) p1 >>= fun r8 =>
  if r8 = 0 then
  some 0
  else
  some 1) : Option (Int32)) >>= fun (t2 : Int32) =>
  zb t2 >>= fun z4 => some z4
set_option maxRecDepth 100000 in
set_option maxHeartbeats 4000000 in
/-- HeadCounts.isLiving -/
theorem e_159 {D : Nat} {c0 c1 c2 c3 c4 c5 c6 c7 c8 c9 c10 c11 c12 c13 : Cl} {d : Ad} {h : UH} {a0 : Nat} {p1 : Int32} {r : Int32} (hD : 2 ≤ D) (hW : HW (mkw c0 c1 c2 c3 c4 c5 c6 c7 c8 c9 c10 c11 c12 c13) d h) (ha0 : aK d a0 = (0, 11, 0)) (hF : F_159 c1 c8 c10 c11 a0 p1 = some r) : ∃ q, EX D 159 [.ref a0, .int p1] h q ∧ q.1 = some (.int r) ∧ h = q.2 := by
  obtain ⟨D, rfl⟩ : ∃ E, D = E + 1 := ⟨D - 1, by omega⟩
  unfold F_159 at hF
  refine ex_in (kl := kl_159) (nL := 2) rfl (by decide +kernel) (Nat.le_of_ble_eq_true rfl) ?_
  obtain ⟨QQ, hQQ⟩ : ∃ QQ : UR → Prop, QQ = (fun q : UR => q.1 = some (.int r) ∧ h = q.2) := ⟨_, rfl⟩
  rw [← hQQ]
  have hQ : QQ (some (.int r), h) := by rw [hQQ]; exact ⟨rfl, rfl⟩
  clear hQQ
  show Ends (EX D) (u_at kl_159) (0, [some (.ref a0), some (.int p1)], [], h) QQ
  refine en_segs [(0, .aload_n 0, []), (1, .iload_n 1, [])] (by decide +kernel) (y := (2, [some (.ref a0), some (.int p1)], [.int p1, .ref a0], h)) rfl ?_
  obtain ⟨r1, hr1, hF⟩ := ob_some hF
  refine en_vi (r := []) (by decide +kernel : u_at kl_159 2 = some (.invokevirtual 135, [158, 1, 11])) hW ha0 rfl rfl (Nat.le_of_ble_eq_true rfl) (e_158 (D := D) (by omega) hW ha0 hr1) (fun h' q => ?_)
  subst q
  obtain ⟨t2, hX, hK⟩ := ob_some hF
  have j3 : Ends (EX D) (u_at kl_159) (27, [some (.ref a0), some (.int p1)], [.int t2], h) QQ := by
    have hF := hK
    obtain ⟨z4, hz4, hF⟩ := ob_some hF
    obtain rfl := Option.some.inj hF
    exact en_retZ (by decide +kernel : u_at kl_159 27 = some (.ireturn, [1])) hz4 (hQ)
  have hF := hX
  refine en_if_eq (by decide +kernel : u_at kl_159 5 = some (.ifCond .eq 21, [26])) (fun b5 => ?_) (fun b5 => ?_)
  · replace hF := i_pos b5 hF
    refine en_segs [(26, .iconst 0, [])] (by decide +kernel) (y := (27, [some (.ref a0), some (.int p1)], [.int 0], h)) rfl ?_
    obtain rfl := Option.some.inj hF
    exact j3
  · replace hF := i_neg b5 hF
    refine en_segs [(8, .aload_n 0, [])] (by decide +kernel) (y := (9, [some (.ref a0), some (.int p1)], [.ref a0], h)) rfl ?_
    have k6 : aK d (cR c11 7 a0) = (0, 10, 0) := wf_obj hW ha0 (by decide) rfl
    refine en_get (by decide +kernel : u_at kl_159 9 = some (.getfield 52, [11, 7])) hW ha0 (by decide) rfl ?_
    have k7 : aK d (cR c10 0 (cR c11 7 a0)) = (0, 8, 0) := wf_obj hW k6 (by decide) rfl
    refine en_get (by decide +kernel : u_at kl_159 12 = some (.getfield 62, [10, 0])) hW k6 (by decide) rfl ?_
    refine en_segs [(15, .iload_n 1, [])] (by decide +kernel) (y := (16, [some (.ref a0), some (.int p1)], [.int p1, .ref (cR c10 0 (cR c11 7 a0))], h)) rfl ?_
    obtain ⟨r8, hr8, hF⟩ := ob_some hF
    refine en_vi (r := []) (by decide +kernel : u_at kl_159 16 = some (.invokevirtual 155, [83, 1, 8])) hW k7 rfl rfl (Nat.le_of_ble_eq_true rfl) (e_83 (D := D) (by omega) hW k7 hr8) (fun h' q => ?_)
    subst q
    refine en_if_eq (by decide +kernel : u_at kl_159 19 = some (.ifCond .eq 7, [26])) (fun b9 => ?_) (fun b9 => ?_)
    · replace hF := i_pos b9 hF
      refine en_segs [(26, .iconst 0, [])] (by decide +kernel) (y := (27, [some (.ref a0), some (.int p1)], [.int 0], h)) rfl ?_
      obtain rfl := Option.some.inj hF
      exact j3
    · replace hF := i_neg b9 hF
      refine en_segs [(22, .iconst 1, []), (23, .goto 4, [27])] (by decide +kernel) (y := (27, [some (.ref a0), some (.int p1)], [.int 1], h)) rfl ?_
      obtain rfl := Option.some.inj hF
      exact j3
def F_164 (p1 : Int32) : Option Int32 :=
  ((if p1 < 0 then
  some 0
  else
  if 99 < p1 then
  some 0
  else
  some 1) : Option (Int32)) >>= fun (t1 : Int32) =>
  zb t1 >>= fun z3 => some z3
set_option maxRecDepth 100000 in
set_option maxHeartbeats 4000000 in
/-- HeadCounts.isHalves -/
theorem e_164 {D : Nat} {c0 c1 c2 c3 c4 c5 c6 c7 c8 c9 c10 c11 c12 c13 : Cl} {d : Ad} {h : UH} {p1 : Int32} {r : Int32} (hD : 1 ≤ D) (hW : HW (mkw c0 c1 c2 c3 c4 c5 c6 c7 c8 c9 c10 c11 c12 c13) d h) (hF : F_164 p1 = some r) : ∃ q, EX D 164 [.int p1] h q ∧ q.1 = some (.int r) ∧ h = q.2 := by
  obtain ⟨D, rfl⟩ : ∃ E, D = E + 1 := ⟨D - 1, by omega⟩
  unfold F_164 at hF
  refine ex_in (kl := kl_164) (nL := 1) rfl (by decide +kernel) (Nat.le_of_ble_eq_true rfl) ?_
  obtain ⟨QQ, hQQ⟩ : ∃ QQ : UR → Prop, QQ = (fun q : UR => q.1 = some (.int r) ∧ h = q.2) := ⟨_, rfl⟩
  rw [← hQQ]
  have hQ : QQ (some (.int r), h) := by rw [hQQ]; exact ⟨rfl, rfl⟩
  clear hQQ
  show Ends (EX D) (u_at kl_164) (0, [some (.int p1)], [], h) QQ
  refine en_segs [(0, .iload_n 0, [])] (by decide +kernel) (y := (1, [some (.int p1)], [.int p1], h)) rfl ?_
  obtain ⟨t1, hX, hK⟩ := ob_some hF
  have j2 : Ends (EX D) (u_at kl_164) (15, [some (.int p1)], [.int t1], h) QQ := by
    have hF := hK
    obtain ⟨z3, hz3, hF⟩ := ob_some hF
    obtain rfl := Option.some.inj hF
    exact en_retZ (by decide +kernel : u_at kl_164 15 = some (.ireturn, [1])) hz3 (hQ)
  have hF := hX
  refine en_if_lt (by decide +kernel : u_at kl_164 1 = some (.ifCond .lt 13, [14])) (fun b4 => ?_) (fun b4 => ?_)
  · replace hF := i_pos b4 hF
    refine en_segs [(14, .iconst 0, [])] (by decide +kernel) (y := (15, [some (.int p1)], [.int 0], h)) rfl ?_
    obtain rfl := Option.some.inj hF
    exact j2
  · replace hF := i_neg b4 hF
    refine en_segs [(4, .iload_n 0, []), (5, .bipush 99, [])] (by decide +kernel) (y := (7, [some (.int p1)], [.int 99, .int p1], h)) rfl ?_
    refine en_ic_gt (by decide +kernel : u_at kl_164 7 = some (.if_icmp .gt 7, [14])) (fun b5 => ?_) (fun b5 => ?_)
    · replace hF := i_pos b5 hF
      refine en_segs [(14, .iconst 0, [])] (by decide +kernel) (y := (15, [some (.int p1)], [.int 0], h)) rfl ?_
      obtain rfl := Option.some.inj hF
      exact j2
    · replace hF := i_neg b5 hF
      refine en_segs [(10, .iconst 1, []), (11, .goto 4, [15])] (by decide +kernel) (y := (15, [some (.int p1)], [.int 1], h)) rfl ?_
      obtain rfl := Option.some.inj hF
      exact j2
def F_139 (c1 : Cl) (c7 : Cl) (c8 : Cl) (c10 : Cl) (c11 : Cl) (a0 : Nat) (p1 : Int32) (p2 : Int32) (p3 : Int32) : Option (Int32 × Cl × Cl) :=
  if p1 = (-1) then
  some (sI c10 5 (cR c11 7 a0) 0) >>= fun c10_3 =>
  some (sI c7 1 (cR c11 12 a0) 0) >>= fun c7_5 =>
  some (0, c7_5, c10_3)
  else
  if p1 < 0 then
  some ((-2), c7, c10)
  else
  if 8 < p1 then
  some ((-2), c7, c10)
  else
  F_162 c1 c8 c10 c11 a0 p2 >>= fun r8 =>
  if r8 = 0 then
  some ((-2), c7, c10)
  else
  F_164 p3 >>= fun r10 =>
  if r10 = 0 then
  some ((-2), c7, c10)
  else
  if (cI c10 5 (cR c11 7 a0)) < 12 then
  F_121 c10 (cR c11 7 a0) p1 p2 p3 >>= fun r14 =>
  some (sI c7 1 (cR c11 12 a0) 0) >>= fun c7_16 =>
  some (cI r14 5 (cR c11 7 a0), c7_16, r14)
  else
  some ((-2), c7, c10)
set_option maxRecDepth 100000 in
set_option maxHeartbeats 4000000 in
/-- HeadCounts.tell -/
theorem e_139 {D : Nat} {c0 c1 c2 c3 c4 c5 c6 c7 c8 c9 c10 c11 c12 c13 : Cl} {d : Ad} {h : UH} {a0 : Nat} {p1 : Int32} {p2 : Int32} {p3 : Int32} {r : (Int32 × Cl × Cl)} (hD : 2 ≤ D) (hW : HW (mkw c0 c1 c2 c3 c4 c5 c6 c7 c8 c9 c10 c11 c12 c13) d h) (ha0 : aK d a0 = (0, 11, 0)) (hF : F_139 c1 c7 c8 c10 c11 a0 p1 p2 p3 = some r) : ∃ q, EX D 139 [.ref a0, .int p1, .int p2, .int p3] h q ∧ q.1 = some (.int r.1) ∧ HW (mkw c0 c1 c2 c3 c4 c5 c6 r.2.1 c8 c9 r.2.2 c11 c12 c13) d q.2 := by
  obtain ⟨D, rfl⟩ : ∃ E, D = E + 1 := ⟨D - 1, by omega⟩
  unfold F_139 at hF
  refine ex_in (kl := kl_139) (nL := 4) rfl (by decide +kernel) (Nat.le_of_ble_eq_true rfl) ?_
  obtain ⟨QQ, hQQ⟩ : ∃ QQ : UR → Prop, QQ = (fun q : UR => q.1 = some (.int r.1) ∧ HW (mkw c0 c1 c2 c3 c4 c5 c6 r.2.1 c8 c9 r.2.2 c11 c12 c13) d q.2) := ⟨_, rfl⟩
  rw [← hQQ]
  have hQ : ∀ h' : UH, HW (mkw c0 c1 c2 c3 c4 c5 c6 r.2.1 c8 c9 r.2.2 c11 c12 c13) d h' → QQ (some (.int r.1), h') := fun h' p => by rw [hQQ]; exact ⟨rfl, p⟩
  clear hQQ
  show Ends (EX D) (u_at kl_139) (0, [some (.ref a0), some (.int p1), some (.int p2), some (.int p3)], [], h) QQ
  refine en_segs [(0, .iload_n 1, []), (1, .iconst (-1), [])] (by decide +kernel) (y := (2, [some (.ref a0), some (.int p1), some (.int p2), some (.int p3)], [.int (-1), .int p1], h)) rfl ?_
  refine en_ic_ne (by decide +kernel : u_at kl_139 2 = some (.if_icmp .ne 21, [23])) (fun b1 => ?_) (fun b1 => ?_)
  · replace hF := i_pos b1 hF
    refine en_segs [(5, .aload_n 0, [])] (by decide +kernel) (y := (6, [some (.ref a0), some (.int p1), some (.int p2), some (.int p3)], [.ref a0], h)) rfl ?_
    have k2 : aK d (cR c11 7 a0) = (0, 10, 0) := wf_obj hW ha0 (by decide) rfl
    refine en_get (by decide +kernel : u_at kl_139 6 = some (.getfield 52, [11, 7])) hW ha0 (by decide) rfl ?_
    refine en_segs [(9, .iconst 0, [])] (by decide +kernel) (y := (10, [some (.ref a0), some (.int p1), some (.int p2), some (.int p3)], [.int 0, .ref (cR c11 7 a0)], h)) rfl ?_
    obtain ⟨c10_3, hc10_3, hF⟩ := ob_some hF
    refine en_putI (by decide +kernel : u_at kl_139 10 = some (.putfield 252, [10, 5, 0])) hW k2 rfl (by decide) rfl (fun h hW => ?_)
    have hW : HW (mkw c0 c1 c2 c3 c4 c5 c6 c7 c8 c9 c10_3 c11 c12 c13) d h := by rw [← Option.some.inj hc10_3]; exact hW
    refine en_segs [(13, .aload_n 0, [])] (by decide +kernel) (y := (14, [some (.ref a0), some (.int p1), some (.int p2), some (.int p3)], [.ref a0], h)) rfl ?_
    have k4 : aK d (cR c11 12 a0) = (0, 7, 0) := wf_obj hW ha0 (by decide) rfl
    refine en_get (by decide +kernel : u_at kl_139 14 = some (.getfield 86, [11, 12])) hW ha0 (by decide) rfl ?_
    refine en_segs [(17, .iconst 0, [])] (by decide +kernel) (y := (18, [some (.ref a0), some (.int p1), some (.int p2), some (.int p3)], [.int 0, .ref (cR c11 12 a0)], h)) rfl ?_
    obtain ⟨c7_5, hc7_5, hF⟩ := ob_some hF
    refine en_putI (by decide +kernel : u_at kl_139 18 = some (.putfield 122, [7, 1, 2])) hW k4 rfl (by decide) rfl (fun h hW => ?_)
    have hW : HW (mkw c0 c1 c2 c3 c4 c5 c6 c7_5 c8 c9 c10_3 c11 c12 c13) d h := by rw [← Option.some.inj hc7_5]; exact hW
    refine en_segs [(21, .iconst 0, [])] (by decide +kernel) (y := (22, [some (.ref a0), some (.int p1), some (.int p2), some (.int p3)], [.int 0], h)) rfl ?_
    obtain rfl := Option.some.inj hF
    exact en_ret (by decide +kernel : u_at kl_139 22 = some (.ireturn, [0])) rfl (hQ _ hW)
  · replace hF := i_neg b1 hF
    refine en_segs [(23, .iload_n 1, [])] (by decide +kernel) (y := (24, [some (.ref a0), some (.int p1), some (.int p2), some (.int p3)], [.int p1], h)) rfl ?_
    refine en_if_lt (by decide +kernel : u_at kl_139 24 = some (.ifCond .lt 36, [60])) (fun b6 => ?_) (fun b6 => ?_)
    · replace hF := i_pos b6 hF
      refine en_segs [(60, .bipush (-2), [])] (by decide +kernel) (y := (62, [some (.ref a0), some (.int p1), some (.int p2), some (.int p3)], [.int (-2)], h)) rfl ?_
      obtain rfl := Option.some.inj hF
      exact en_ret (by decide +kernel : u_at kl_139 62 = some (.ireturn, [0])) rfl (hQ _ hW)
    · replace hF := i_neg b6 hF
      refine en_segs [(27, .iload_n 1, []), (28, .bipush 8, [])] (by decide +kernel) (y := (30, [some (.ref a0), some (.int p1), some (.int p2), some (.int p3)], [.int 8, .int p1], h)) rfl ?_
      refine en_ic_gt (by decide +kernel : u_at kl_139 30 = some (.if_icmp .gt 30, [60])) (fun b7 => ?_) (fun b7 => ?_)
      · replace hF := i_pos b7 hF
        refine en_segs [(60, .bipush (-2), [])] (by decide +kernel) (y := (62, [some (.ref a0), some (.int p1), some (.int p2), some (.int p3)], [.int (-2)], h)) rfl ?_
        obtain rfl := Option.some.inj hF
        exact en_ret (by decide +kernel : u_at kl_139 62 = some (.ireturn, [0])) rfl (hQ _ hW)
      · replace hF := i_neg b7 hF
        refine en_segs [(33, .aload_n 0, []), (34, .iload_n 2, [])] (by decide +kernel) (y := (35, [some (.ref a0), some (.int p1), some (.int p2), some (.int p3)], [.int p2, .ref a0], h)) rfl ?_
        obtain ⟨r8, hr8, hF⟩ := ob_some hF
        refine en_vi (r := []) (by decide +kernel : u_at kl_139 35 = some (.invokevirtual 195, [162, 1, 11])) hW ha0 rfl rfl (Nat.le_of_ble_eq_true rfl) (e_162 (D := D) (by omega) hW ha0 hr8) (fun h' q => ?_)
        subst q
        refine en_if_eq (by decide +kernel : u_at kl_139 38 = some (.ifCond .eq 22, [60])) (fun b9 => ?_) (fun b9 => ?_)
        · replace hF := i_pos b9 hF
          refine en_segs [(60, .bipush (-2), [])] (by decide +kernel) (y := (62, [some (.ref a0), some (.int p1), some (.int p2), some (.int p3)], [.int (-2)], h)) rfl ?_
          obtain rfl := Option.some.inj hF
          exact en_ret (by decide +kernel : u_at kl_139 62 = some (.ireturn, [0])) rfl (hQ _ hW)
        · replace hF := i_neg b9 hF
          refine en_segs [(41, .iload_n 3, [])] (by decide +kernel) (y := (42, [some (.ref a0), some (.int p1), some (.int p2), some (.int p3)], [.int p3], h)) rfl ?_
          obtain ⟨r10, hr10, hF⟩ := ob_some hF
          refine en_si (r := []) (by decide +kernel : u_at kl_139 42 = some (.invokestatic 255, [164, 1])) rfl rfl (Nat.le_of_ble_eq_true rfl) (e_164 (D := D) (by omega) hW hr10) (fun h' q => ?_)
          subst q
          refine en_if_eq (by decide +kernel : u_at kl_139 45 = some (.ifCond .eq 15, [60])) (fun b11 => ?_) (fun b11 => ?_)
          · replace hF := i_pos b11 hF
            refine en_segs [(60, .bipush (-2), [])] (by decide +kernel) (y := (62, [some (.ref a0), some (.int p1), some (.int p2), some (.int p3)], [.int (-2)], h)) rfl ?_
            obtain rfl := Option.some.inj hF
            exact en_ret (by decide +kernel : u_at kl_139 62 = some (.ireturn, [0])) rfl (hQ _ hW)
          · replace hF := i_neg b11 hF
            refine en_segs [(48, .aload_n 0, [])] (by decide +kernel) (y := (49, [some (.ref a0), some (.int p1), some (.int p2), some (.int p3)], [.ref a0], h)) rfl ?_
            have k12 : aK d (cR c11 7 a0) = (0, 10, 0) := wf_obj hW ha0 (by decide) rfl
            refine en_get (by decide +kernel : u_at kl_139 49 = some (.getfield 52, [11, 7])) hW ha0 (by decide) rfl ?_
            refine en_get (by decide +kernel : u_at kl_139 52 = some (.getfield 252, [10, 5])) hW k12 (by decide) rfl ?_
            refine en_segs [(55, .bipush 12, [])] (by decide +kernel) (y := (57, [some (.ref a0), some (.int p1), some (.int p2), some (.int p3)], [.int 12, .int (cI c10 5 (cR c11 7 a0))], h)) rfl ?_
            refine en_ic_lt (by decide +kernel : u_at kl_139 57 = some (.if_icmp .lt 6, [63])) (fun b13 => ?_) (fun b13 => ?_)
            · replace hF := i_pos b13 hF
              refine en_segs [(63, .aload_n 0, [])] (by decide +kernel) (y := (64, [some (.ref a0), some (.int p1), some (.int p2), some (.int p3)], [.ref a0], h)) rfl ?_
              refine en_get (by decide +kernel : u_at kl_139 64 = some (.getfield 52, [11, 7])) hW ha0 (by decide) rfl ?_
              refine en_segs [(67, .iload_n 1, []), (68, .iload_n 2, []), (69, .iload_n 3, [])] (by decide +kernel) (y := (70, [some (.ref a0), some (.int p1), some (.int p2), some (.int p3)], [.int p3, .int p2, .int p1, .ref (cR c11 7 a0)], h)) rfl ?_
              obtain ⟨r14, hr14, hF⟩ := ob_some hF
              refine en_vv (r := []) (by decide +kernel : u_at kl_139 70 = some (.invokevirtual 258, [121, 3, 10])) hW k12 rfl rfl (Nat.le_of_ble_eq_true rfl) (e_121 (D := D) (by omega) hW k12 hr14) (fun h hW => ?_)
              have hW : HW (mkw c0 c1 c2 c3 c4 c5 c6 c7 c8 c9 r14 c11 c12 c13) d h := hW
              refine en_segs [(73, .aload_n 0, [])] (by decide +kernel) (y := (74, [some (.ref a0), some (.int p1), some (.int p2), some (.int p3)], [.ref a0], h)) rfl ?_
              have k15 : aK d (cR c11 12 a0) = (0, 7, 0) := wf_obj hW ha0 (by decide) rfl
              refine en_get (by decide +kernel : u_at kl_139 74 = some (.getfield 86, [11, 12])) hW ha0 (by decide) rfl ?_
              refine en_segs [(77, .iconst 0, [])] (by decide +kernel) (y := (78, [some (.ref a0), some (.int p1), some (.int p2), some (.int p3)], [.int 0, .ref (cR c11 12 a0)], h)) rfl ?_
              obtain ⟨c7_16, hc7_16, hF⟩ := ob_some hF
              refine en_putI (by decide +kernel : u_at kl_139 78 = some (.putfield 122, [7, 1, 2])) hW k15 rfl (by decide) rfl (fun h hW => ?_)
              have hW : HW (mkw c0 c1 c2 c3 c4 c5 c6 c7_16 c8 c9 r14 c11 c12 c13) d h := by rw [← Option.some.inj hc7_16]; exact hW
              refine en_segs [(81, .aload_n 0, [])] (by decide +kernel) (y := (82, [some (.ref a0), some (.int p1), some (.int p2), some (.int p3)], [.ref a0], h)) rfl ?_
              refine en_get (by decide +kernel : u_at kl_139 82 = some (.getfield 52, [11, 7])) hW ha0 (by decide) rfl ?_
              refine en_get (by decide +kernel : u_at kl_139 85 = some (.getfield 252, [10, 5])) hW k12 (by decide) rfl ?_
              obtain rfl := Option.some.inj hF
              exact en_ret (by decide +kernel : u_at kl_139 88 = some (.ireturn, [0])) rfl (hQ _ hW)
            · replace hF := i_neg b13 hF
              refine en_segs [(60, .bipush (-2), [])] (by decide +kernel) (y := (62, [some (.ref a0), some (.int p1), some (.int p2), some (.int p3)], [.int (-2)], h)) rfl ?_
              obtain rfl := Option.some.inj hF
              exact en_ret (by decide +kernel : u_at kl_139 62 = some (.ireturn, [0])) rfl (hQ _ hW)
def F_144 (c1 : Cl) (c6 : Cl) (c8 : Cl) (c9 : Cl) (c10 : Cl) (c11 : Cl) (a0 : Nat) (p1 : Int32) : Option (Int32 × Cl × Cl) :=
  F_157 c1 c8 c10 c11 a0 >>= fun r1 =>
  if r1 = 0 then
  some ((-1), c6, c9)
  else
  if p1 < 0 then
  some ((-1), c6, c9)
  else
  if p1 < (1 <<< ((cI c1 0 (cR c8 0 (cR c10 0 (cR c11 7 a0)))) &&& 31)) then
  F_108 c1 c6 c8 c9 (cR c11 14 a0) (cR c10 0 (cR c11 7 a0)) >>= fun r9 =>
  F_109 r9.2 (cR c11 14 a0) p1 >>= fun r10 =>
  ((if r10 = 0 then
  some 0
  else
  some 1) : Option (Int32)) >>= fun (t11 : Int32) =>
  some (t11, r9.1, r9.2)
  else
  some ((-1), c6, c9)
set_option maxRecDepth 100000 in
set_option maxHeartbeats 4000000 in
/-- HeadCounts.known -/
theorem e_144 {D : Nat} {c0 c1 c2 c3 c4 c5 c6 c7 c8 c9 c10 c11 c12 c13 : Cl} {d : Ad} {h : UH} {a0 : Nat} {p1 : Int32} {r : (Int32 × Cl × Cl)} (hD : 5 ≤ D) (hW : HW (mkw c0 c1 c2 c3 c4 c5 c6 c7 c8 c9 c10 c11 c12 c13) d h) (ha0 : aK d a0 = (0, 11, 0)) (hF : F_144 c1 c6 c8 c9 c10 c11 a0 p1 = some r) : ∃ q, EX D 144 [.ref a0, .int p1] h q ∧ q.1 = some (.int r.1) ∧ HW (mkw c0 c1 c2 c3 c4 c5 r.2.1 c7 c8 r.2.2 c10 c11 c12 c13) d q.2 := by
  obtain ⟨D, rfl⟩ : ∃ E, D = E + 1 := ⟨D - 1, by omega⟩
  unfold F_144 at hF
  refine ex_in (kl := kl_144) (nL := 2) rfl (by decide +kernel) (Nat.le_of_ble_eq_true rfl) ?_
  obtain ⟨QQ, hQQ⟩ : ∃ QQ : UR → Prop, QQ = (fun q : UR => q.1 = some (.int r.1) ∧ HW (mkw c0 c1 c2 c3 c4 c5 r.2.1 c7 c8 r.2.2 c10 c11 c12 c13) d q.2) := ⟨_, rfl⟩
  rw [← hQQ]
  have hQ : ∀ h' : UH, HW (mkw c0 c1 c2 c3 c4 c5 r.2.1 c7 c8 r.2.2 c10 c11 c12 c13) d h' → QQ (some (.int r.1), h') := fun h' p => by rw [hQQ]; exact ⟨rfl, p⟩
  clear hQQ
  show Ends (EX D) (u_at kl_144) (0, [some (.ref a0), some (.int p1)], [], h) QQ
  refine en_segs [(0, .aload_n 0, [])] (by decide +kernel) (y := (1, [some (.ref a0), some (.int p1)], [.ref a0], h)) rfl ?_
  obtain ⟨r1, hr1, hF⟩ := ob_some hF
  refine en_vi (r := []) (by decide +kernel : u_at kl_144 1 = some (.invokevirtual 222, [157, 0, 11])) hW ha0 rfl rfl (Nat.le_of_ble_eq_true rfl) (e_157 (D := D) (by omega) hW ha0 hr1) (fun h' q => ?_)
  subst q
  refine en_if_eq (by decide +kernel : u_at kl_144 4 = some (.ifCond .eq 26, [30])) (fun b2 => ?_) (fun b2 => ?_)
  · replace hF := i_pos b2 hF
    refine en_segs [(30, .iconst (-1), [])] (by decide +kernel) (y := (31, [some (.ref a0), some (.int p1)], [.int (-1)], h)) rfl ?_
    obtain rfl := Option.some.inj hF
    exact en_ret (by decide +kernel : u_at kl_144 31 = some (.ireturn, [0])) rfl (hQ _ hW)
  · replace hF := i_neg b2 hF
    refine en_segs [(7, .iload_n 1, [])] (by decide +kernel) (y := (8, [some (.ref a0), some (.int p1)], [.int p1], h)) rfl ?_
    refine en_if_lt (by decide +kernel : u_at kl_144 8 = some (.ifCond .lt 22, [30])) (fun b3 => ?_) (fun b3 => ?_)
    · replace hF := i_pos b3 hF
      refine en_segs [(30, .iconst (-1), [])] (by decide +kernel) (y := (31, [some (.ref a0), some (.int p1)], [.int (-1)], h)) rfl ?_
      obtain rfl := Option.some.inj hF
      exact en_ret (by decide +kernel : u_at kl_144 31 = some (.ireturn, [0])) rfl (hQ _ hW)
    · replace hF := i_neg b3 hF
      refine en_segs [(11, .iload_n 1, []), (12, .iconst 1, []), (13, .aload_n 0, [])] (by decide +kernel) (y := (14, [some (.ref a0), some (.int p1)], [.ref a0, .int 1, .int p1], h)) rfl ?_
      have k4 : aK d (cR c11 7 a0) = (0, 10, 0) := wf_obj hW ha0 (by decide) rfl
      refine en_get (by decide +kernel : u_at kl_144 14 = some (.getfield 52, [11, 7])) hW ha0 (by decide) rfl ?_
      have k5 : aK d (cR c10 0 (cR c11 7 a0)) = (0, 8, 0) := wf_obj hW k4 (by decide) rfl
      refine en_get (by decide +kernel : u_at kl_144 17 = some (.getfield 62, [10, 0])) hW k4 (by decide) rfl ?_
      have k6 : aK d (cR c8 0 (cR c10 0 (cR c11 7 a0))) = (0, 1, 0) := wf_obj hW k5 (by decide) rfl
      refine en_get (by decide +kernel : u_at kl_144 20 = some (.getfield 66, [8, 0])) hW k5 (by decide) rfl ?_
      refine en_get (by decide +kernel : u_at kl_144 23 = some (.getfield 288, [1, 0])) hW k6 (by decide) rfl ?_
      refine en_segs [(26, .ishl, [])] (by decide +kernel) (y := (27, [some (.ref a0), some (.int p1)], [.int (1 <<< ((cI c1 0 (cR c8 0 (cR c10 0 (cR c11 7 a0)))) &&& 31)), .int p1], h)) rfl ?_
      refine en_ic_lt (by decide +kernel : u_at kl_144 27 = some (.if_icmp .lt 5, [32])) (fun b7 => ?_) (fun b7 => ?_)
      · replace hF := i_pos b7 hF
        refine en_segs [(32, .aload_n 0, [])] (by decide +kernel) (y := (33, [some (.ref a0), some (.int p1)], [.ref a0], h)) rfl ?_
        have k8 : aK d (cR c11 14 a0) = (0, 9, 0) := wf_obj hW ha0 (by decide) rfl
        refine en_get (by decide +kernel : u_at kl_144 33 = some (.getfield 100, [11, 14])) hW ha0 (by decide) rfl ?_
        refine en_segs [(36, .aload_n 0, [])] (by decide +kernel) (y := (37, [some (.ref a0), some (.int p1)], [.ref a0, .ref (cR c11 14 a0)], h)) rfl ?_
        refine en_get (by decide +kernel : u_at kl_144 37 = some (.getfield 52, [11, 7])) hW ha0 (by decide) rfl ?_
        refine en_get (by decide +kernel : u_at kl_144 40 = some (.getfield 62, [10, 0])) hW k4 (by decide) rfl ?_
        obtain ⟨r9, hr9, hF⟩ := ob_some hF
        refine en_vv (r := []) (by decide +kernel : u_at kl_144 43 = some (.invokevirtual 291, [108, 1, 9])) hW k8 rfl rfl (Nat.le_of_ble_eq_true rfl) (e_108 (D := D) (by omega) hW k8 k5 hr9) (fun h hW => ?_)
        have hW : HW (mkw c0 c1 c2 c3 c4 c5 r9.1 c7 c8 r9.2 c10 c11 c12 c13) d h := hW
        refine en_segs [(46, .aload_n 0, [])] (by decide +kernel) (y := (47, [some (.ref a0), some (.int p1)], [.ref a0], h)) rfl ?_
        refine en_get (by decide +kernel : u_at kl_144 47 = some (.getfield 100, [11, 14])) hW ha0 (by decide) rfl ?_
        refine en_segs [(50, .iload_n 1, [])] (by decide +kernel) (y := (51, [some (.ref a0), some (.int p1)], [.int p1, .ref (cR c11 14 a0)], h)) rfl ?_
        obtain ⟨r10, hr10, hF⟩ := ob_some hF
        refine en_vi (r := []) (by decide +kernel : u_at kl_144 51 = some (.invokevirtual 295, [109, 1, 9])) hW k8 rfl rfl (Nat.le_of_ble_eq_true rfl) (e_109 (D := D) (by omega) hW k8 hr10) (fun h' q => ?_)
        subst q
        obtain ⟨t11, hX, hK⟩ := ob_some hF
        have j12 : ∀ h : UH, HW (mkw c0 c1 c2 c3 c4 c5 r9.1 c7 c8 r9.2 c10 c11 c12 c13) d h → Ends (EX D) (u_at kl_144) (62, [some (.ref a0), some (.int p1)], [.int t11], h) QQ := by
          intro h hW
          have hF := hK
          obtain rfl := Option.some.inj hF
          exact en_ret (by decide +kernel : u_at kl_144 62 = some (.ireturn, [0])) rfl (hQ _ hW)
        have hF := hX
        refine en_if_eq (by decide +kernel : u_at kl_144 54 = some (.ifCond .eq 7, [61])) (fun b13 => ?_) (fun b13 => ?_)
        · replace hF := i_pos b13 hF
          refine en_segs [(61, .iconst 0, [])] (by decide +kernel) (y := (62, [some (.ref a0), some (.int p1)], [.int 0], h)) rfl ?_
          obtain rfl := Option.some.inj hF
          exact j12 _ hW
        · replace hF := i_neg b13 hF
          refine en_segs [(57, .iconst 1, []), (58, .goto 4, [62])] (by decide +kernel) (y := (62, [some (.ref a0), some (.int p1)], [.int 1], h)) rfl ?_
          obtain rfl := Option.some.inj hF
          exact j12 _ hW
      · replace hF := i_neg b7 hF
        refine en_segs [(30, .iconst (-1), [])] (by decide +kernel) (y := (31, [some (.ref a0), some (.int p1)], [.int (-1)], h)) rfl ?_
        obtain rfl := Option.some.inj hF
        exact en_ret (by decide +kernel : u_at kl_144 31 = some (.ireturn, [0])) rfl (hQ _ hW)
def F_145 (c1 : Cl) (c6 : Cl) (c8 : Cl) (c9 : Cl) (c10 : Cl) (c11 : Cl) (a0 : Nat) : Option (Int32 × Cl × Cl) :=
  F_157 c1 c8 c10 c11 a0 >>= fun r1 =>
  if r1 = 0 then
  some ((-1), c6, c9)
  else
  F_108 c1 c6 c8 c9 (cR c11 14 a0) (cR c10 0 (cR c11 7 a0)) >>= fun r6 =>
  F_111 r6.1 r6.2 (cR c11 14 a0) >>= fun r7 =>
  some (r7, r6.1, r6.2)
set_option maxRecDepth 100000 in
set_option maxHeartbeats 4000000 in
/-- HeadCounts.watch -/
theorem e_145 {D : Nat} {c0 c1 c2 c3 c4 c5 c6 c7 c8 c9 c10 c11 c12 c13 : Cl} {d : Ad} {h : UH} {a0 : Nat} {r : (Int32 × Cl × Cl)} (hD : 5 ≤ D) (hW : HW (mkw c0 c1 c2 c3 c4 c5 c6 c7 c8 c9 c10 c11 c12 c13) d h) (ha0 : aK d a0 = (0, 11, 0)) (hF : F_145 c1 c6 c8 c9 c10 c11 a0 = some r) : ∃ q, EX D 145 [.ref a0] h q ∧ q.1 = some (.int r.1) ∧ HW (mkw c0 c1 c2 c3 c4 c5 r.2.1 c7 c8 r.2.2 c10 c11 c12 c13) d q.2 := by
  obtain ⟨D, rfl⟩ : ∃ E, D = E + 1 := ⟨D - 1, by omega⟩
  unfold F_145 at hF
  refine ex_in (kl := kl_145) (nL := 1) rfl (by decide +kernel) (Nat.le_of_ble_eq_true rfl) ?_
  obtain ⟨QQ, hQQ⟩ : ∃ QQ : UR → Prop, QQ = (fun q : UR => q.1 = some (.int r.1) ∧ HW (mkw c0 c1 c2 c3 c4 c5 r.2.1 c7 c8 r.2.2 c10 c11 c12 c13) d q.2) := ⟨_, rfl⟩
  rw [← hQQ]
  have hQ : ∀ h' : UH, HW (mkw c0 c1 c2 c3 c4 c5 r.2.1 c7 c8 r.2.2 c10 c11 c12 c13) d h' → QQ (some (.int r.1), h') := fun h' p => by rw [hQQ]; exact ⟨rfl, p⟩
  clear hQQ
  show Ends (EX D) (u_at kl_145) (0, [some (.ref a0)], [], h) QQ
  refine en_segs [(0, .aload_n 0, [])] (by decide +kernel) (y := (1, [some (.ref a0)], [.ref a0], h)) rfl ?_
  obtain ⟨r1, hr1, hF⟩ := ob_some hF
  refine en_vi (r := []) (by decide +kernel : u_at kl_145 1 = some (.invokevirtual 222, [157, 0, 11])) hW ha0 rfl rfl (Nat.le_of_ble_eq_true rfl) (e_157 (D := D) (by omega) hW ha0 hr1) (fun h' q => ?_)
  subst q
  refine en_if_ne (by decide +kernel : u_at kl_145 4 = some (.ifCond .ne 5, [9])) (fun b2 => ?_) (fun b2 => ?_)
  · replace hF := i_pos b2 hF
    refine en_segs [(7, .iconst (-1), [])] (by decide +kernel) (y := (8, [some (.ref a0)], [.int (-1)], h)) rfl ?_
    obtain rfl := Option.some.inj hF
    exact en_ret (by decide +kernel : u_at kl_145 8 = some (.ireturn, [0])) rfl (hQ _ hW)
  · replace hF := i_neg b2 hF
    refine en_segs [(9, .aload_n 0, [])] (by decide +kernel) (y := (10, [some (.ref a0)], [.ref a0], h)) rfl ?_
    have k3 : aK d (cR c11 14 a0) = (0, 9, 0) := wf_obj hW ha0 (by decide) rfl
    refine en_get (by decide +kernel : u_at kl_145 10 = some (.getfield 100, [11, 14])) hW ha0 (by decide) rfl ?_
    refine en_segs [(13, .aload_n 0, [])] (by decide +kernel) (y := (14, [some (.ref a0)], [.ref a0, .ref (cR c11 14 a0)], h)) rfl ?_
    have k4 : aK d (cR c11 7 a0) = (0, 10, 0) := wf_obj hW ha0 (by decide) rfl
    refine en_get (by decide +kernel : u_at kl_145 14 = some (.getfield 52, [11, 7])) hW ha0 (by decide) rfl ?_
    have k5 : aK d (cR c10 0 (cR c11 7 a0)) = (0, 8, 0) := wf_obj hW k4 (by decide) rfl
    refine en_get (by decide +kernel : u_at kl_145 17 = some (.getfield 62, [10, 0])) hW k4 (by decide) rfl ?_
    obtain ⟨r6, hr6, hF⟩ := ob_some hF
    refine en_vv (r := []) (by decide +kernel : u_at kl_145 20 = some (.invokevirtual 291, [108, 1, 9])) hW k3 rfl rfl (Nat.le_of_ble_eq_true rfl) (e_108 (D := D) (by omega) hW k3 k5 hr6) (fun h hW => ?_)
    have hW : HW (mkw c0 c1 c2 c3 c4 c5 r6.1 c7 c8 r6.2 c10 c11 c12 c13) d h := hW
    refine en_segs [(23, .aload_n 0, [])] (by decide +kernel) (y := (24, [some (.ref a0)], [.ref a0], h)) rfl ?_
    refine en_get (by decide +kernel : u_at kl_145 24 = some (.getfield 100, [11, 14])) hW ha0 (by decide) rfl ?_
    obtain ⟨r7, hr7, hF⟩ := ob_some hF
    refine en_vi (r := []) (by decide +kernel : u_at kl_145 27 = some (.invokevirtual 298, [111, 0, 9])) hW k3 rfl rfl (Nat.le_of_ble_eq_true rfl) (e_111 (D := D) (by omega) hW k3 hr7) (fun h' q => ?_)
    subst q
    obtain rfl := Option.some.inj hF
    exact en_ret (by decide +kernel : u_at kl_145 30 = some (.ireturn, [0])) rfl (hQ _ hW)
def F_150 (c1 : Cl) (c6 : Cl) (c8 : Cl) (c9 : Cl) (c10 : Cl) (c11 : Cl) (a0 : Nat) (p1 : Int32) : Option (Int32 × Cl) :=
  F_157 c1 c8 c10 c11 a0 >>= fun r1 =>
  if r1 = 0 then
  some ((-1), c6)
  else
  if p1 < 0 then
  some ((-1), c6)
  else
  if p1 ≤ 1 then
  ((if p1 = 0 then
  some 1
  else
  some 0) : Option (Int32)) >>= fun (t8 : Int32) =>
  F_112 c1 c6 c8 c9 (cR c11 14 a0) (cR c10 0 (cR c11 7 a0)) t8 >>= fun r10 =>
  some (r10.1, r10.2)
  else
  some ((-1), c6)
set_option maxRecDepth 100000 in
set_option maxHeartbeats 4000000 in
/-- HeadCounts.swaps -/
theorem e_150 {D : Nat} {c0 c1 c2 c3 c4 c5 c6 c7 c8 c9 c10 c11 c12 c13 : Cl} {d : Ad} {h : UH} {a0 : Nat} {p1 : Int32} {r : (Int32 × Cl)} (hD : 5 ≤ D) (hW : HW (mkw c0 c1 c2 c3 c4 c5 c6 c7 c8 c9 c10 c11 c12 c13) d h) (ha0 : aK d a0 = (0, 11, 0)) (hF : F_150 c1 c6 c8 c9 c10 c11 a0 p1 = some r) : ∃ q, EX D 150 [.ref a0, .int p1] h q ∧ q.1 = some (.int r.1) ∧ HW (mkw c0 c1 c2 c3 c4 c5 r.2 c7 c8 c9 c10 c11 c12 c13) d q.2 := by
  obtain ⟨D, rfl⟩ : ∃ E, D = E + 1 := ⟨D - 1, by omega⟩
  unfold F_150 at hF
  refine ex_in (kl := kl_150) (nL := 2) rfl (by decide +kernel) (Nat.le_of_ble_eq_true rfl) ?_
  obtain ⟨QQ, hQQ⟩ : ∃ QQ : UR → Prop, QQ = (fun q : UR => q.1 = some (.int r.1) ∧ HW (mkw c0 c1 c2 c3 c4 c5 r.2 c7 c8 c9 c10 c11 c12 c13) d q.2) := ⟨_, rfl⟩
  rw [← hQQ]
  have hQ : ∀ h' : UH, HW (mkw c0 c1 c2 c3 c4 c5 r.2 c7 c8 c9 c10 c11 c12 c13) d h' → QQ (some (.int r.1), h') := fun h' p => by rw [hQQ]; exact ⟨rfl, p⟩
  clear hQQ
  show Ends (EX D) (u_at kl_150) (0, [some (.ref a0), some (.int p1)], [], h) QQ
  refine en_segs [(0, .aload_n 0, [])] (by decide +kernel) (y := (1, [some (.ref a0), some (.int p1)], [.ref a0], h)) rfl ?_
  obtain ⟨r1, hr1, hF⟩ := ob_some hF
  refine en_vi (r := []) (by decide +kernel : u_at kl_150 1 = some (.invokevirtual 222, [157, 0, 11])) hW ha0 rfl rfl (Nat.le_of_ble_eq_true rfl) (e_157 (D := D) (by omega) hW ha0 hr1) (fun h' q => ?_)
  subst q
  refine en_if_eq (by decide +kernel : u_at kl_150 4 = some (.ifCond .eq 12, [16])) (fun b2 => ?_) (fun b2 => ?_)
  · replace hF := i_pos b2 hF
    refine en_segs [(16, .iconst (-1), [])] (by decide +kernel) (y := (17, [some (.ref a0), some (.int p1)], [.int (-1)], h)) rfl ?_
    obtain rfl := Option.some.inj hF
    exact en_ret (by decide +kernel : u_at kl_150 17 = some (.ireturn, [0])) rfl (hQ _ hW)
  · replace hF := i_neg b2 hF
    refine en_segs [(7, .iload_n 1, [])] (by decide +kernel) (y := (8, [some (.ref a0), some (.int p1)], [.int p1], h)) rfl ?_
    refine en_if_lt (by decide +kernel : u_at kl_150 8 = some (.ifCond .lt 8, [16])) (fun b3 => ?_) (fun b3 => ?_)
    · replace hF := i_pos b3 hF
      refine en_segs [(16, .iconst (-1), [])] (by decide +kernel) (y := (17, [some (.ref a0), some (.int p1)], [.int (-1)], h)) rfl ?_
      obtain rfl := Option.some.inj hF
      exact en_ret (by decide +kernel : u_at kl_150 17 = some (.ireturn, [0])) rfl (hQ _ hW)
    · replace hF := i_neg b3 hF
      refine en_segs [(11, .iload_n 1, []), (12, .iconst 1, [])] (by decide +kernel) (y := (13, [some (.ref a0), some (.int p1)], [.int 1, .int p1], h)) rfl ?_
      refine en_ic_le (by decide +kernel : u_at kl_150 13 = some (.if_icmp .le 5, [18])) (fun b4 => ?_) (fun b4 => ?_)
      · replace hF := i_pos b4 hF
        refine en_segs [(18, .aload_n 0, [])] (by decide +kernel) (y := (19, [some (.ref a0), some (.int p1)], [.ref a0], h)) rfl ?_
        have k5 : aK d (cR c11 14 a0) = (0, 9, 0) := wf_obj hW ha0 (by decide) rfl
        refine en_get (by decide +kernel : u_at kl_150 19 = some (.getfield 100, [11, 14])) hW ha0 (by decide) rfl ?_
        refine en_segs [(22, .aload_n 0, [])] (by decide +kernel) (y := (23, [some (.ref a0), some (.int p1)], [.ref a0, .ref (cR c11 14 a0)], h)) rfl ?_
        have k6 : aK d (cR c11 7 a0) = (0, 10, 0) := wf_obj hW ha0 (by decide) rfl
        refine en_get (by decide +kernel : u_at kl_150 23 = some (.getfield 52, [11, 7])) hW ha0 (by decide) rfl ?_
        have k7 : aK d (cR c10 0 (cR c11 7 a0)) = (0, 8, 0) := wf_obj hW k6 (by decide) rfl
        refine en_get (by decide +kernel : u_at kl_150 26 = some (.getfield 62, [10, 0])) hW k6 (by decide) rfl ?_
        refine en_segs [(29, .iload_n 1, [])] (by decide +kernel) (y := (30, [some (.ref a0), some (.int p1)], [.int p1, .ref (cR c10 0 (cR c11 7 a0)), .ref (cR c11 14 a0)], h)) rfl ?_
        obtain ⟨t8, hX, hK⟩ := ob_some hF
        have j9 : ∀ h : UH, HW (mkw c0 c1 c2 c3 c4 c5 c6 c7 c8 c9 c10 c11 c12 c13) d h → Ends (EX D) (u_at kl_150) (38, [some (.ref a0), some (.int p1)], [.int t8, .ref (cR c10 0 (cR c11 7 a0)), .ref (cR c11 14 a0)], h) QQ := by
          intro h hW
          have hF := hK
          obtain ⟨r10, hr10, hF⟩ := ob_some hF
          refine en_vi (r := []) (by decide +kernel : u_at kl_150 38 = some (.invokevirtual 332, [112, 2, 9])) hW k5 rfl rfl (Nat.le_of_ble_eq_true rfl) (e_112 (D := D) (by omega) hW k5 k7 hr10) (fun h hW => ?_)
          have hW : HW (mkw c0 c1 c2 c3 c4 c5 r10.2 c7 c8 c9 c10 c11 c12 c13) d h := hW
          obtain rfl := Option.some.inj hF
          exact en_ret (by decide +kernel : u_at kl_150 41 = some (.ireturn, [0])) rfl (hQ _ hW)
        have hF := hX
        refine en_if_ne (by decide +kernel : u_at kl_150 30 = some (.ifCond .ne 7, [37])) (fun b11 => ?_) (fun b11 => ?_)
        · replace hF := i_pos b11 hF
          refine en_segs [(33, .iconst 1, []), (34, .goto 4, [38])] (by decide +kernel) (y := (38, [some (.ref a0), some (.int p1)], [.int 1, .ref (cR c10 0 (cR c11 7 a0)), .ref (cR c11 14 a0)], h)) rfl ?_
          obtain rfl := Option.some.inj hF
          exact j9 _ hW
        · replace hF := i_neg b11 hF
          refine en_segs [(37, .iconst 0, [])] (by decide +kernel) (y := (38, [some (.ref a0), some (.int p1)], [.int 0, .ref (cR c10 0 (cR c11 7 a0)), .ref (cR c11 14 a0)], h)) rfl ?_
          obtain rfl := Option.some.inj hF
          exact j9 _ hW
      · replace hF := i_neg b4 hF
        refine en_segs [(16, .iconst (-1), [])] (by decide +kernel) (y := (17, [some (.ref a0), some (.int p1)], [.int (-1)], h)) rfl ?_
        obtain rfl := Option.some.inj hF
        exact en_ret (by decide +kernel : u_at kl_150 17 = some (.ireturn, [0])) rfl (hQ _ hW)
def F_151 (c10 : Cl) (c11 : Cl) (a0 : Nat) (p1 : Int32) : Option (Int32 × Cl) :=
  if 0 ≤ p1 then
  some (sI c10 4 (cR c11 7 a0) p1) >>= fun c10_3 =>
  some (cI c10 4 (cR c11 7 a0), c10_3)
  else
  some ((-1), c10)
set_option maxRecDepth 100000 in
set_option maxHeartbeats 4000000 in
/-- HeadCounts.seed -/
theorem e_151 {D : Nat} {c0 c1 c2 c3 c4 c5 c6 c7 c8 c9 c10 c11 c12 c13 : Cl} {d : Ad} {h : UH} {a0 : Nat} {p1 : Int32} {r : (Int32 × Cl)} (hD : 1 ≤ D) (hW : HW (mkw c0 c1 c2 c3 c4 c5 c6 c7 c8 c9 c10 c11 c12 c13) d h) (ha0 : aK d a0 = (0, 11, 0)) (hF : F_151 c10 c11 a0 p1 = some r) : ∃ q, EX D 151 [.ref a0, .int p1] h q ∧ q.1 = some (.int r.1) ∧ HW (mkw c0 c1 c2 c3 c4 c5 c6 c7 c8 c9 r.2 c11 c12 c13) d q.2 := by
  obtain ⟨D, rfl⟩ : ∃ E, D = E + 1 := ⟨D - 1, by omega⟩
  unfold F_151 at hF
  refine ex_in (kl := kl_151) (nL := 3) rfl (by decide +kernel) (Nat.le_of_ble_eq_true rfl) ?_
  obtain ⟨QQ, hQQ⟩ : ∃ QQ : UR → Prop, QQ = (fun q : UR => q.1 = some (.int r.1) ∧ HW (mkw c0 c1 c2 c3 c4 c5 c6 c7 c8 c9 r.2 c11 c12 c13) d q.2) := ⟨_, rfl⟩
  rw [← hQQ]
  have hQ : ∀ h' : UH, HW (mkw c0 c1 c2 c3 c4 c5 c6 c7 c8 c9 r.2 c11 c12 c13) d h' → QQ (some (.int r.1), h') := fun h' p => by rw [hQQ]; exact ⟨rfl, p⟩
  clear hQQ
  show Ends (EX D) (u_at kl_151) (0, [some (.ref a0), some (.int p1), none], [], h) QQ
  refine en_segs [(0, .iload_n 1, [])] (by decide +kernel) (y := (1, [some (.ref a0), some (.int p1), none], [.int p1], h)) rfl ?_
  refine en_if_ge (by decide +kernel : u_at kl_151 1 = some (.ifCond .ge 5, [6])) (fun b1 => ?_) (fun b1 => ?_)
  · replace hF := i_pos b1 hF
    refine en_segs [(6, .aload_n 0, [])] (by decide +kernel) (y := (7, [some (.ref a0), some (.int p1), none], [.ref a0], h)) rfl ?_
    have k2 : aK d (cR c11 7 a0) = (0, 10, 0) := wf_obj hW ha0 (by decide) rfl
    refine en_get (by decide +kernel : u_at kl_151 7 = some (.getfield 52, [11, 7])) hW ha0 (by decide) rfl ?_
    refine en_get (by decide +kernel : u_at kl_151 10 = some (.getfield 336, [10, 4])) hW k2 (by decide) rfl ?_
    refine en_segs [(13, .istore_n 2, []), (14, .aload_n 0, [])] (by decide +kernel) (y := (15, [some (.ref a0), some (.int p1), some (.int (cI c10 4 (cR c11 7 a0)))], [.ref a0], h)) rfl ?_
    refine en_get (by decide +kernel : u_at kl_151 15 = some (.getfield 52, [11, 7])) hW ha0 (by decide) rfl ?_
    refine en_segs [(18, .iload_n 1, [])] (by decide +kernel) (y := (19, [some (.ref a0), some (.int p1), some (.int (cI c10 4 (cR c11 7 a0)))], [.int p1, .ref (cR c11 7 a0)], h)) rfl ?_
    obtain ⟨c10_3, hc10_3, hF⟩ := ob_some hF
    refine en_putI (by decide +kernel : u_at kl_151 19 = some (.putfield 336, [10, 4, 0])) hW k2 rfl (by decide) rfl (fun h hW => ?_)
    have hW : HW (mkw c0 c1 c2 c3 c4 c5 c6 c7 c8 c9 c10_3 c11 c12 c13) d h := by rw [← Option.some.inj hc10_3]; exact hW
    refine en_segs [(22, .iload_n 2, [])] (by decide +kernel) (y := (23, [some (.ref a0), some (.int p1), some (.int (cI c10 4 (cR c11 7 a0)))], [.int (cI c10 4 (cR c11 7 a0))], h)) rfl ?_
    obtain rfl := Option.some.inj hF
    exact en_ret (by decide +kernel : u_at kl_151 23 = some (.ireturn, [0])) rfl (hQ _ hW)
  · replace hF := i_neg b1 hF
    refine en_segs [(4, .iconst (-1), [])] (by decide +kernel) (y := (5, [some (.ref a0), some (.int p1), none], [.int (-1)], h)) rfl ?_
    obtain rfl := Option.some.inj hF
    exact en_ret (by decide +kernel : u_at kl_151 5 = some (.ireturn, [0])) rfl (hQ _ hW)
def F_167 (c11 : Cl) (a0 : Nat) : Option (Int32 × Cl) :=
  some (sJ c11 10 a0 ((((cJ c11 10 a0) * 1103515245) + 12345) &&& 2147483647)) >>= fun c11_1 =>
  ldv (cJ c11_1 10 a0) 65536 >>= fun v2 =>
  some ((v2 : Int64).toInt32, c11_1)
set_option maxRecDepth 100000 in
set_option maxHeartbeats 4000000 in
/-- HeadCounts.nextDraw -/
theorem e_167 {D : Nat} {c0 c1 c2 c3 c4 c5 c6 c7 c8 c9 c10 c11 c12 c13 : Cl} {d : Ad} {h : UH} {a0 : Nat} {r : (Int32 × Cl)} (hD : 1 ≤ D) (hW : HW (mkw c0 c1 c2 c3 c4 c5 c6 c7 c8 c9 c10 c11 c12 c13) d h) (ha0 : aK d a0 = (0, 11, 0)) (hF : F_167 c11 a0 = some r) : ∃ q, EX D 167 [.ref a0] h q ∧ q.1 = some (.int r.1) ∧ HW (mkw c0 c1 c2 c3 c4 c5 c6 c7 c8 c9 c10 r.2 c12 c13) d q.2 := by
  obtain ⟨D, rfl⟩ : ∃ E, D = E + 1 := ⟨D - 1, by omega⟩
  unfold F_167 at hF
  refine ex_in (kl := kl_167) (nL := 1) rfl (by decide +kernel) (Nat.le_of_ble_eq_true rfl) ?_
  obtain ⟨QQ, hQQ⟩ : ∃ QQ : UR → Prop, QQ = (fun q : UR => q.1 = some (.int r.1) ∧ HW (mkw c0 c1 c2 c3 c4 c5 c6 c7 c8 c9 c10 r.2 c12 c13) d q.2) := ⟨_, rfl⟩
  rw [← hQQ]
  have hQ : ∀ h' : UH, HW (mkw c0 c1 c2 c3 c4 c5 c6 c7 c8 c9 c10 r.2 c12 c13) d h' → QQ (some (.int r.1), h') := fun h' p => by rw [hQQ]; exact ⟨rfl, p⟩
  clear hQQ
  show Ends (EX D) (u_at kl_167) (0, [some (.ref a0)], [], h) QQ
  refine en_segs [(0, .aload_n 0, []), (1, .aload_n 0, [])] (by decide +kernel) (y := (2, [some (.ref a0)], [.ref a0, .ref a0], h)) rfl ?_
  refine en_get (by decide +kernel : u_at kl_167 2 = some (.getfield 339, [11, 10])) hW ha0 (by decide) rfl ?_
  refine en_segs [(5, .ldc2_w 368, [1103515245]), (8, .lmul, []), (9, .ldc2_w 370, [12345]), (12, .ladd, []), (13, .ldc2_w 372, [2147483647]), (16, .land, [])] (by decide +kernel) (y := (17, [some (.ref a0)], [.long ((((cJ c11 10 a0) * 1103515245) + 12345) &&& 2147483647), .ref a0], h)) rfl ?_
  obtain ⟨c11_1, hc11_1, hF⟩ := ob_some hF
  refine en_putJ (by decide +kernel : u_at kl_167 17 = some (.putfield 339, [11, 10, 1])) hW ha0 rfl (by decide) rfl (fun h hW => ?_)
  have hW : HW (mkw c0 c1 c2 c3 c4 c5 c6 c7 c8 c9 c10 c11_1 c12 c13) d h := by rw [← Option.some.inj hc11_1]; exact hW
  refine en_segs [(20, .aload_n 0, [])] (by decide +kernel) (y := (21, [some (.ref a0)], [.ref a0], h)) rfl ?_
  refine en_get (by decide +kernel : u_at kl_167 21 = some (.getfield 339, [11, 10])) hW ha0 (by decide) rfl ?_
  refine en_segs [(24, .ldc2_w 374, [65536])] (by decide +kernel) (y := (27, [some (.ref a0)], [.long 65536, .long (cJ c11_1 10 a0)], h)) rfl ?_
  obtain ⟨v2, hv2, hF⟩ := ob_some hF
  refine en_ldiv (by decide +kernel : u_at kl_167 27 = some (.ldiv, [])) hv2 ?_
  refine en_segs [(28, .l2i, [])] (by decide +kernel) (y := (29, [some (.ref a0)], [.int ((v2 : Int64).toInt32)], h)) rfl ?_
  obtain rfl := Option.some.inj hF
  exact en_ret (by decide +kernel : u_at kl_167 29 = some (.ireturn, [0])) rfl (hQ _ hW)
def G_168 (c1 : Cl) (c8 : Cl) (c11 : Cl) (a0 : Nat) (lab : Nat) (xs : List Int32) (ys : List Int64) (zs : List Nat) : Option (Int32 × Cl × Cl) := match lab, xs, ys, zs with
  | 0, [], [], [] =>
    F_92 c1 c8 (cR c11 9 a0) (-1) (-1) 0 >>= fun r17 =>
    some (0, r17, c11)
  | _, _, _, _ => none
set_option maxRecDepth 100000 in
set_option maxHeartbeats 4000000 in
theorem g_168 {D : Nat} (hD : 4 ≤ D + 1) {c0 c1 c2 c3 c4 c5 c6 c7 c8 c9 c10 c11 c12 c13 : Cl} {d : Ad} {a0 : Nat} (ha0 : aK d a0 = (0, 11, 0)) : ∀ (lab : Nat) (xs : List Int32) (ys : List Int64) (zs : List Nat) (r : (Int32 × Cl × Cl)), G_168 c1 c8 c11 a0 lab xs ys zs = some r →
    (∀ (_ : Unit), lab = 0 → xs = [] → ys = [] → zs = [] → ∀ h : UH, HW (mkw c0 c1 c2 c3 c4 c5 c6 c7 c8 c9 c10 c11 c12 c13) d h → ∀ QQ : UR → Prop, (∀ h' : UH, HW (mkw c0 c1 c2 c3 c4 c5 c6 c7 r.2.1 c9 c10 r.2.2 c12 c13) d h' → QQ (some (.int r.1), h')) → Ends (EX D) (u_at kl_168) (77, [some (.ref a0), none, none, none], [], h) QQ) := by
  intro lab xs ys zs r hF
  unfold G_168 at hF
  · intro _ e1 e2 e3 e4 h hW QQ hQ
    subst e1 e2 e3 e4
    refine en_segs [(77, .aload_n 0, [])] (by decide +kernel) (y := (78, [some (.ref a0), none, none, none], [.ref a0], h)) rfl ?_
    have k16 : aK d (cR c11 9 a0) = (0, 8, 0) := wf_obj hW ha0 (by decide) rfl
    refine en_get (by decide +kernel : u_at kl_168 78 = some (.getfield 71, [11, 9])) hW ha0 (by decide) rfl ?_
    refine en_segs [(81, .iconst (-1), []), (82, .iconst (-1), []), (83, .iconst 0, [])] (by decide +kernel) (y := (84, [some (.ref a0), none, none, none], [.int 0, .int (-1), .int (-1), .ref (cR c11 9 a0)], h)) rfl ?_
    obtain ⟨r17, hr17, hF⟩ := ob_some hF
    refine en_vv (r := []) (by decide +kernel : u_at kl_168 84 = some (.invokevirtual 390, [92, 3, 8])) hW k16 rfl rfl (Nat.le_of_ble_eq_true rfl) (e_92 (D := D) (by omega) hW k16 hr17) (fun h hW => ?_)
    have hW : HW (mkw c0 c1 c2 c3 c4 c5 c6 c7 r17 c9 c10 c11 c12 c13) d h := hW
    refine en_segs [(87, .iconst 0, [])] (by decide +kernel) (y := (88, [some (.ref a0), none, none, none], [.int 0], h)) rfl ?_
    obtain rfl := Option.some.inj hF
    exact en_ret (by decide +kernel : u_at kl_168 88 = some (.ireturn, [0])) rfl (hQ _ hW)
def F_168 (c1 : Cl) (c8 : Cl) (c11 : Cl) (a0 : Nat) : Option (Int32 × Cl × Cl) :=
  F_167 c11 a0 >>= fun r3 =>
  irm r3.1 ((cI c1 2 (cR c8 0 (cR c11 9 a0))) + 1) >>= fun v4 =>
  if (cI c1 2 (cR c8 0 (cR c11 9 a0))) ≤ v4 then
  G_168 c1 c8 r3.2 a0 0 [] [] []
  else
  F_83 c8 (cR r3.2 9 a0) v4 >>= fun r7 =>
  if r7 = 0 then
  G_168 c1 c8 r3.2 a0 0 [] [] []
  else
  F_101 c1 c8 (cR r3.2 9 a0) v4 >>= fun r9 =>
  F_300 r9 >>= fun r10 =>
  if r10 ≤ 0 then
  G_168 c1 c8 r3.2 a0 0 [] [] []
  else
  F_167 r3.2 a0 >>= fun r12 =>
  irm r12.1 r10 >>= fun v13 =>
  F_102 c1 c8 (cR r3.2 9 a0) v4 v13 >>= fun r14 =>
  F_92 c1 c8 (cR r3.2 9 a0) v4 r14 0 >>= fun r15 =>
  some (1, r15, r12.2)
set_option maxRecDepth 100000 in
set_option maxHeartbeats 4000000 in
/-- HeadCounts.passByDraw -/
theorem e_168 {D : Nat} {c0 c1 c2 c3 c4 c5 c6 c7 c8 c9 c10 c11 c12 c13 : Cl} {d : Ad} {h : UH} {a0 : Nat} {r : (Int32 × Cl × Cl)} (hD : 4 ≤ D) (hW : HW (mkw c0 c1 c2 c3 c4 c5 c6 c7 c8 c9 c10 c11 c12 c13) d h) (ha0 : aK d a0 = (0, 11, 0)) (hF : F_168 c1 c8 c11 a0 = some r) : ∃ q, EX D 168 [.ref a0] h q ∧ q.1 = some (.int r.1) ∧ HW (mkw c0 c1 c2 c3 c4 c5 c6 c7 r.2.1 c9 c10 r.2.2 c12 c13) d q.2 := by
  obtain ⟨D, rfl⟩ : ∃ E, D = E + 1 := ⟨D - 1, by omega⟩
  unfold F_168 at hF
  refine ex_in (kl := kl_168) (nL := 4) rfl (by decide +kernel) (Nat.le_of_ble_eq_true rfl) ?_
  obtain ⟨QQ, hQQ⟩ : ∃ QQ : UR → Prop, QQ = (fun q : UR => q.1 = some (.int r.1) ∧ HW (mkw c0 c1 c2 c3 c4 c5 c6 c7 r.2.1 c9 c10 r.2.2 c12 c13) d q.2) := ⟨_, rfl⟩
  rw [← hQQ]
  have hQ : ∀ h' : UH, HW (mkw c0 c1 c2 c3 c4 c5 c6 c7 r.2.1 c9 c10 r.2.2 c12 c13) d h' → QQ (some (.int r.1), h') := fun h' p => by rw [hQQ]; exact ⟨rfl, p⟩
  clear hQQ
  show Ends (EX D) (u_at kl_168) (0, [some (.ref a0), none, none, none], [], h) QQ
  refine en_segs [(0, .aload_n 0, [])] (by decide +kernel) (y := (1, [some (.ref a0), none, none, none], [.ref a0], h)) rfl ?_
  have k1 : aK d (cR c11 9 a0) = (0, 8, 0) := wf_obj hW ha0 (by decide) rfl
  refine en_get (by decide +kernel : u_at kl_168 1 = some (.getfield 71, [11, 9])) hW ha0 (by decide) rfl ?_
  have k2 : aK d (cR c8 0 (cR c11 9 a0)) = (0, 1, 0) := wf_obj hW k1 (by decide) rfl
  refine en_get (by decide +kernel : u_at kl_168 4 = some (.getfield 66, [8, 0])) hW k1 (by decide) rfl ?_
  refine en_get (by decide +kernel : u_at kl_168 7 = some (.getfield 126, [1, 2])) hW k2 (by decide) rfl ?_
  refine en_segs [(10, .istore_n 1, []), (11, .aload_n 0, [])] (by decide +kernel) (y := (12, [some (.ref a0), some (.int (cI c1 2 (cR c8 0 (cR c11 9 a0)))), none, none], [.ref a0], h)) rfl ?_
  obtain ⟨r3, hr3, hF⟩ := ob_some hF
  refine en_vi (r := []) (by decide +kernel : u_at kl_168 12 = some (.invokevirtual 376, [167, 0, 11])) hW ha0 rfl rfl (Nat.le_of_ble_eq_true rfl) (e_167 (D := D) (by omega) hW ha0 hr3) (fun h hW => ?_)
  have hW : HW (mkw c0 c1 c2 c3 c4 c5 c6 c7 c8 c9 c10 r3.2 c12 c13) d h := hW
  refine en_segs [(15, .iload_n 1, []), (16, .iconst 1, []), (17, .iadd, [])] (by decide +kernel) (y := (18, [some (.ref a0), some (.int (cI c1 2 (cR c8 0 (cR c11 9 a0)))), none, none], [.int ((cI c1 2 (cR c8 0 (cR c11 9 a0))) + 1), .int r3.1], h)) rfl ?_
  obtain ⟨v4, hv4, hF⟩ := ob_some hF
  refine en_irem (by decide +kernel : u_at kl_168 18 = some (.irem, [])) hv4 ?_
  refine en_segs [(19, .istore_n 2, []), (20, .iload_n 2, []), (21, .iload_n 1, [])] (by decide +kernel) (y := (22, [some (.ref a0), some (.int (cI c1 2 (cR c8 0 (cR c11 9 a0)))), some (.int v4), none], [.int (cI c1 2 (cR c8 0 (cR c11 9 a0))), .int v4], h)) rfl ?_
  refine en_ic_ge (by decide +kernel : u_at kl_168 22 = some (.if_icmp .ge 55, [77])) (fun b5 => ?_) (fun b5 => ?_)
  · replace hF := i_pos b5 hF
    refine en_fg (fg_k (fg_d (fg_d (fg_k fg_0)))) ?_
    exact (g_168 (D := D) hD (d := d) ha0 _ _ _ _ _ hF) () rfl rfl rfl rfl  _ hW _ hQ
  · replace hF := i_neg b5 hF
    refine en_segs [(25, .aload_n 0, [])] (by decide +kernel) (y := (26, [some (.ref a0), some (.int (cI c1 2 (cR c8 0 (cR c11 9 a0)))), some (.int v4), none], [.ref a0], h)) rfl ?_
    have k6 : aK d (cR r3.2 9 a0) = (0, 8, 0) := wf_obj hW ha0 (by decide) rfl
    refine en_get (by decide +kernel : u_at kl_168 26 = some (.getfield 71, [11, 9])) hW ha0 (by decide) rfl ?_
    refine en_segs [(29, .iload_n 2, [])] (by decide +kernel) (y := (30, [some (.ref a0), some (.int (cI c1 2 (cR c8 0 (cR c11 9 a0)))), some (.int v4), none], [.int v4, .ref (cR r3.2 9 a0)], h)) rfl ?_
    obtain ⟨r7, hr7, hF⟩ := ob_some hF
    refine en_vi (r := []) (by decide +kernel : u_at kl_168 30 = some (.invokevirtual 155, [83, 1, 8])) hW k6 rfl rfl (Nat.le_of_ble_eq_true rfl) (e_83 (D := D) (by omega) hW k6 hr7) (fun h' q => ?_)
    subst q
    refine en_if_eq (by decide +kernel : u_at kl_168 33 = some (.ifCond .eq 44, [77])) (fun b8 => ?_) (fun b8 => ?_)
    · replace hF := i_pos b8 hF
      refine en_fg (fg_k (fg_d (fg_d (fg_k fg_0)))) ?_
      exact (g_168 (D := D) hD (d := d) ha0 _ _ _ _ _ hF) () rfl rfl rfl rfl  _ hW _ hQ
    · replace hF := i_neg b8 hF
      refine en_segs [(36, .aload_n 0, [])] (by decide +kernel) (y := (37, [some (.ref a0), some (.int (cI c1 2 (cR c8 0 (cR c11 9 a0)))), some (.int v4), none], [.ref a0], h)) rfl ?_
      refine en_get (by decide +kernel : u_at kl_168 37 = some (.getfield 71, [11, 9])) hW ha0 (by decide) rfl ?_
      refine en_segs [(40, .iload_n 2, [])] (by decide +kernel) (y := (41, [some (.ref a0), some (.int (cI c1 2 (cR c8 0 (cR c11 9 a0)))), some (.int v4), none], [.int v4, .ref (cR r3.2 9 a0)], h)) rfl ?_
      obtain ⟨r9, hr9, hF⟩ := ob_some hF
      refine en_vi (r := []) (by decide +kernel : u_at kl_168 41 = some (.invokevirtual 379, [101, 1, 8])) hW k6 rfl rfl (Nat.le_of_ble_eq_true rfl) (e_101 (D := D) (by omega) hW k6 hr9) (fun h' q => ?_)
      subst q
      obtain ⟨r10, hr10, hF⟩ := ob_some hF
      refine en_si (r := []) (by decide +kernel : u_at kl_168 44 = some (.invokestatic 382, [300, 1])) rfl rfl (Nat.le_of_ble_eq_true rfl) (e_300 (D := D) (by omega) hW hr10) (fun h' q => ?_)
      subst q
      refine en_segs [(47, .istore_n 3, []), (48, .iload_n 3, [])] (by decide +kernel) (y := (49, [some (.ref a0), some (.int (cI c1 2 (cR c8 0 (cR c11 9 a0)))), some (.int v4), some (.int r10)], [.int r10], h)) rfl ?_
      refine en_if_le (by decide +kernel : u_at kl_168 49 = some (.ifCond .le 28, [77])) (fun b11 => ?_) (fun b11 => ?_)
      · replace hF := i_pos b11 hF
        refine en_fg (fg_k (fg_d (fg_d (fg_d fg_0)))) ?_
        exact (g_168 (D := D) hD (d := d) ha0 _ _ _ _ _ hF) () rfl rfl rfl rfl  _ hW _ hQ
      · replace hF := i_neg b11 hF
        refine en_segs [(52, .aload_n 0, [])] (by decide +kernel) (y := (53, [some (.ref a0), some (.int (cI c1 2 (cR c8 0 (cR c11 9 a0)))), some (.int v4), some (.int r10)], [.ref a0], h)) rfl ?_
        refine en_get (by decide +kernel : u_at kl_168 53 = some (.getfield 71, [11, 9])) hW ha0 (by decide) rfl ?_
        refine en_segs [(56, .iload_n 2, []), (57, .aload_n 0, [])] (by decide +kernel) (y := (58, [some (.ref a0), some (.int (cI c1 2 (cR c8 0 (cR c11 9 a0)))), some (.int v4), some (.int r10)], [.ref a0, .int v4, .ref (cR r3.2 9 a0)], h)) rfl ?_
        refine en_get (by decide +kernel : u_at kl_168 58 = some (.getfield 71, [11, 9])) hW ha0 (by decide) rfl ?_
        refine en_segs [(61, .iload_n 2, []), (62, .aload_n 0, [])] (by decide +kernel) (y := (63, [some (.ref a0), some (.int (cI c1 2 (cR c8 0 (cR c11 9 a0)))), some (.int v4), some (.int r10)], [.ref a0, .int v4, .ref (cR r3.2 9 a0), .int v4, .ref (cR r3.2 9 a0)], h)) rfl ?_
        obtain ⟨r12, hr12, hF⟩ := ob_some hF
        refine en_vi (r := [.int v4, .ref (cR r3.2 9 a0), .int v4, .ref (cR r3.2 9 a0)]) (by decide +kernel : u_at kl_168 63 = some (.invokevirtual 376, [167, 0, 11])) hW ha0 rfl rfl (Nat.le_of_ble_eq_true rfl) (e_167 (D := D) (by omega) hW ha0 hr12) (fun h hW => ?_)
        have hW : HW (mkw c0 c1 c2 c3 c4 c5 c6 c7 c8 c9 c10 r12.2 c12 c13) d h := hW
        refine en_segs [(66, .iload_n 3, [])] (by decide +kernel) (y := (67, [some (.ref a0), some (.int (cI c1 2 (cR c8 0 (cR c11 9 a0)))), some (.int v4), some (.int r10)], [.int r10, .int r12.1, .int v4, .ref (cR r3.2 9 a0), .int v4, .ref (cR r3.2 9 a0)], h)) rfl ?_
        obtain ⟨v13, hv13, hF⟩ := ob_some hF
        refine en_irem (by decide +kernel : u_at kl_168 67 = some (.irem, [])) hv13 ?_
        obtain ⟨r14, hr14, hF⟩ := ob_some hF
        refine en_vi (r := [.int v4, .ref (cR r3.2 9 a0)]) (by decide +kernel : u_at kl_168 68 = some (.invokevirtual 387, [102, 2, 8])) hW k6 rfl rfl (Nat.le_of_ble_eq_true rfl) (e_102 (D := D) (by omega) hW k6 hr14) (fun h' q => ?_)
        subst q
        refine en_segs [(71, .iconst 0, [])] (by decide +kernel) (y := (72, [some (.ref a0), some (.int (cI c1 2 (cR c8 0 (cR c11 9 a0)))), some (.int v4), some (.int r10)], [.int 0, .int r14, .int v4, .ref (cR r3.2 9 a0)], h)) rfl ?_
        obtain ⟨r15, hr15, hF⟩ := ob_some hF
        refine en_vv (r := []) (by decide +kernel : u_at kl_168 72 = some (.invokevirtual 390, [92, 3, 8])) hW k6 rfl rfl (Nat.le_of_ble_eq_true rfl) (e_92 (D := D) (by omega) hW k6 hr15) (fun h hW => ?_)
        have hW : HW (mkw c0 c1 c2 c3 c4 c5 c6 c7 r15 c9 c10 r12.2 c12 c13) d h := hW
        refine en_segs [(75, .iconst 1, [])] (by decide +kernel) (y := (76, [some (.ref a0), some (.int (cI c1 2 (cR c8 0 (cR c11 9 a0)))), some (.int v4), some (.int r10)], [.int 1], h)) rfl ?_
        obtain rfl := Option.some.inj hF
        exact en_ret (by decide +kernel : u_at kl_168 76 = some (.ireturn, [0])) rfl (hQ _ hW)
def G_152 (c1 : Cl) (c10 : Cl) (a0 : Nat) (lab : Nat) (xs : List Int32) (ys : List Int64) (zs : List Nat) (c8 : Cl) (c11 : Cl) : Option (Int32 × Cl × Cl) := match lab, xs, ys, zs with
  | 0, [x1, x2, x3, x4, x5, x6, x7, x8], [], [] =>
    if x1 ≤ x8 then
    ((if x5 = 0 then
    some x6
    else
    some x7) : Option (Int32)) >>= fun (t14 : Int32) =>
    some (t14, c8, c11)
    else
    F_82 c8 (cR c11 9 a0) (cR c10 0 (cR c11 7 a0)) >>= fun r20 =>
    G_152 c1 c10 a0 1 [x1, x2, x3, x4, x5, x6, x7, x8, 0] [] [] r20 c11
  | 1, [x1, x2, x3, x4, x5, x6, x7, x8, x9], [], [] =>
    if x2 ≤ x9 then
    G_152 c1 c10 a0 0 [x1, x2, x3, x4, x5, x6, x7, x8 + 1] [] [] c8 c11
    else
    F_168 c1 c8 c11 a0 >>= fun r22 =>
    F_97 c1 r22.2.1 (cR r22.2.2 9 a0) x3 >>= fun r24 =>
    ((if r24 < x4 then
    some 0
    else
    some 1) : Option (Int32)) >>= fun (t25 : Int32) =>
    G_152 c1 c10 a0 1 [x1, x2, x3, x4, x5, x6 + t25, x7 + r22.1, x8, x9 + 1] [] [] r22.2.1 r22.2.2
  | _, _, _, _ => none
partial_fixpoint
set_option maxRecDepth 100000 in
set_option maxHeartbeats 4000000 in
theorem g_152 {D : Nat} (hD : 5 ≤ D + 1) {c0 c1 c2 c3 c4 c5 c6 c7 c9 c10 c12 c13 : Cl} {d : Ad} {a0 : Nat} (ha0 : aK d a0 = (0, 11, 0)) : ∀ (lab : Nat) (xs : List Int32) (ys : List Int64) (zs : List Nat) (c8 : Cl) (c11 : Cl) (r : (Int32 × Cl × Cl)), G_152 c1 c10 a0 lab xs ys zs c8 c11 = some r →
    (∀ (x1 : Int32) (x2 : Int32) (x3 : Int32) (x4 : Int32) (x5 : Int32) (x6 : Int32) (x7 : Int32) (x8 : Int32), lab = 0 → xs = [x1, x2, x3, x4, x5, x6, x7, x8] → ys = [] → zs = [] → ∀ h : UH, HW (mkw c0 c1 c2 c3 c4 c5 c6 c7 c8 c9 c10 c11 c12 c13) d h → ∀ QQ : UR → Prop, (∀ h' : UH, HW (mkw c0 c1 c2 c3 c4 c5 c6 c7 r.2.1 c9 c10 r.2.2 c12 c13) d h' → QQ (some (.int r.1), h')) → Ends (EX D) (u_at kl_152) (72, [some (.ref a0), some (.int x1), some (.int x2), some (.int x3), some (.int x4), some (.int x5), some (.int x6), some (.int x7), some (.int x8), none], [], h) QQ) ∧
    (∀ (x1 : Int32) (x2 : Int32) (x3 : Int32) (x4 : Int32) (x5 : Int32) (x6 : Int32) (x7 : Int32) (x8 : Int32) (x9 : Int32), lab = 1 → xs = [x1, x2, x3, x4, x5, x6, x7, x8, x9] → ys = [] → zs = [] → ∀ h : UH, HW (mkw c0 c1 c2 c3 c4 c5 c6 c7 c8 c9 c10 c11 c12 c13) d h → ∀ QQ : UR → Prop, (∀ h' : UH, HW (mkw c0 c1 c2 c3 c4 c5 c6 c7 r.2.1 c9 c10 r.2.2 c12 c13) d h' → QQ (some (.int r.1), h')) → Ends (EX D) (u_at kl_152) (95, [some (.ref a0), some (.int x1), some (.int x2), some (.int x3), some (.int x4), some (.int x5), some (.int x6), some (.int x7), some (.int x8), some (.int x9)], [], h) QQ) := by
  refine G_152.partial_correctness _ _ _ (motive := fun lab xs ys zs c8 c11 r =>
    (∀ (x1 : Int32) (x2 : Int32) (x3 : Int32) (x4 : Int32) (x5 : Int32) (x6 : Int32) (x7 : Int32) (x8 : Int32), lab = 0 → xs = [x1, x2, x3, x4, x5, x6, x7, x8] → ys = [] → zs = [] → ∀ h : UH, HW (mkw c0 c1 c2 c3 c4 c5 c6 c7 c8 c9 c10 c11 c12 c13) d h → ∀ QQ : UR → Prop, (∀ h' : UH, HW (mkw c0 c1 c2 c3 c4 c5 c6 c7 r.2.1 c9 c10 r.2.2 c12 c13) d h' → QQ (some (.int r.1), h')) → Ends (EX D) (u_at kl_152) (72, [some (.ref a0), some (.int x1), some (.int x2), some (.int x3), some (.int x4), some (.int x5), some (.int x6), some (.int x7), some (.int x8), none], [], h) QQ) ∧
    (∀ (x1 : Int32) (x2 : Int32) (x3 : Int32) (x4 : Int32) (x5 : Int32) (x6 : Int32) (x7 : Int32) (x8 : Int32) (x9 : Int32), lab = 1 → xs = [x1, x2, x3, x4, x5, x6, x7, x8, x9] → ys = [] → zs = [] → ∀ h : UH, HW (mkw c0 c1 c2 c3 c4 c5 c6 c7 c8 c9 c10 c11 c12 c13) d h → ∀ QQ : UR → Prop, (∀ h' : UH, HW (mkw c0 c1 c2 c3 c4 c5 c6 c7 r.2.1 c9 c10 r.2.2 c12 c13) d h' → QQ (some (.int r.1), h')) → Ends (EX D) (u_at kl_152) (95, [some (.ref a0), some (.int x1), some (.int x2), some (.int x3), some (.int x4), some (.int x5), some (.int x6), some (.int x7), some (.int x8), some (.int x9)], [], h) QQ)) ?_
  intro G ih lab xs ys zs c8 c11 r hF
  refine ⟨?_, ?_⟩
  · intro x1 x2 x3 x4 x5 x6 x7 x8 e1 e2 e3 e4 h hW QQ hQ
    subst e1 e2 e3 e4
    refine en_segs [(72, .iload 8, []), (74, .iload_n 1, [])] (by decide +kernel) (y := (75, [some (.ref a0), some (.int x1), some (.int x2), some (.int x3), some (.int x4), some (.int x5), some (.int x6), some (.int x7), some (.int x8), none], [.int x1, .int x8], h)) rfl ?_
    refine en_ic_ge (by decide +kernel : u_at kl_152 75 = some (.if_icmp .ge 70, [145])) (fun b13 => ?_) (fun b13 => ?_)
    · replace hF := i_pos b13 hF
      refine en_segs [(145, .iload 5, [])] (by decide +kernel) (y := (147, [some (.ref a0), some (.int x1), some (.int x2), some (.int x3), some (.int x4), some (.int x5), some (.int x6), some (.int x7), some (.int x8), none], [.int x5], h)) rfl ?_
      obtain ⟨t14, hX, hK⟩ := ob_some hF
      have j15 : ∀ h : UH, HW (mkw c0 c1 c2 c3 c4 c5 c6 c7 c8 c9 c10 c11 c12 c13) d h → Ends (EX D) (u_at kl_152) (157, [some (.ref a0), some (.int x1), some (.int x2), some (.int x3), some (.int x4), some (.int x5), some (.int x6), some (.int x7), some (.int x8), none], [.int t14], h) QQ := by
        intro h hW
        have hF := hK
        obtain rfl := Option.some.inj hF
        exact en_ret (by decide +kernel : u_at kl_152 157 = some (.ireturn, [0])) rfl (hQ _ hW)
      have hF := hX
      refine en_if_ne (by decide +kernel : u_at kl_152 147 = some (.ifCond .ne 8, [155])) (fun b16 => ?_) (fun b16 => ?_)
      · replace hF := i_pos b16 hF
        refine en_segs [(150, .iload 6, []), (152, .goto 5, [157])] (by decide +kernel) (y := (157, [some (.ref a0), some (.int x1), some (.int x2), some (.int x3), some (.int x4), some (.int x5), some (.int x6), some (.int x7), some (.int x8), none], [.int x6], h)) rfl ?_
        obtain rfl := Option.some.inj hF
        exact j15 _ hW
      · replace hF := i_neg b16 hF
        refine en_segs [(155, .iload 7, [])] (by decide +kernel) (y := (157, [some (.ref a0), some (.int x1), some (.int x2), some (.int x3), some (.int x4), some (.int x5), some (.int x6), some (.int x7), some (.int x8), none], [.int x7], h)) rfl ?_
        obtain rfl := Option.some.inj hF
        exact j15 _ hW
    · replace hF := i_neg b13 hF
      refine en_segs [(78, .aload_n 0, [])] (by decide +kernel) (y := (79, [some (.ref a0), some (.int x1), some (.int x2), some (.int x3), some (.int x4), some (.int x5), some (.int x6), some (.int x7), some (.int x8), none], [.ref a0], h)) rfl ?_
      have k17 : aK d (cR c11 9 a0) = (0, 8, 0) := wf_obj hW ha0 (by decide) rfl
      refine en_get (by decide +kernel : u_at kl_152 79 = some (.getfield 71, [11, 9])) hW ha0 (by decide) rfl ?_
      refine en_segs [(82, .aload_n 0, [])] (by decide +kernel) (y := (83, [some (.ref a0), some (.int x1), some (.int x2), some (.int x3), some (.int x4), some (.int x5), some (.int x6), some (.int x7), some (.int x8), none], [.ref a0, .ref (cR c11 9 a0)], h)) rfl ?_
      have k18 : aK d (cR c11 7 a0) = (0, 10, 0) := wf_obj hW ha0 (by decide) rfl
      refine en_get (by decide +kernel : u_at kl_152 83 = some (.getfield 52, [11, 7])) hW ha0 (by decide) rfl ?_
      have k19 : aK d (cR c10 0 (cR c11 7 a0)) = (0, 8, 0) := wf_obj hW k18 (by decide) rfl
      refine en_get (by decide +kernel : u_at kl_152 86 = some (.getfield 62, [10, 0])) hW k18 (by decide) rfl ?_
      obtain ⟨r20, hr20, hF⟩ := ob_some hF
      refine en_vv (r := []) (by decide +kernel : u_at kl_152 89 = some (.invokevirtual 342, [82, 1, 8])) hW k17 rfl rfl (Nat.le_of_ble_eq_true rfl) (e_82 (D := D) (by omega) hW k17 k19 hr20) (fun h hW => ?_)
      have hW : HW (mkw c0 c1 c2 c3 c4 c5 c6 c7 r20 c9 c10 c11 c12 c13) d h := hW
      refine en_segs [(92, .iconst 0, []), (93, .istore 9, [])] (by decide +kernel) (y := (95, [some (.ref a0), some (.int x1), some (.int x2), some (.int x3), some (.int x4), some (.int x5), some (.int x6), some (.int x7), some (.int x8), some (.int 0)], [], h)) rfl ?_
      exact (ih _ _ _ _ _ _ _ hF).2 _ _ _ _ _ _ _ _ _ rfl rfl rfl rfl  _ hW _ hQ
  · intro x1 x2 x3 x4 x5 x6 x7 x8 x9 e1 e2 e3 e4 h hW QQ hQ
    subst e1 e2 e3 e4
    refine en_segs [(95, .iload 9, []), (97, .iload_n 2, [])] (by decide +kernel) (y := (98, [some (.ref a0), some (.int x1), some (.int x2), some (.int x3), some (.int x4), some (.int x5), some (.int x6), some (.int x7), some (.int x8), some (.int x9)], [.int x2, .int x9], h)) rfl ?_
    refine en_ic_ge (by decide +kernel : u_at kl_152 98 = some (.if_icmp .ge 41, [139])) (fun b21 => ?_) (fun b21 => ?_)
    · replace hF := i_pos b21 hF
      refine en_segs [(139, .iinc 8 1, []), (142, .goto (-70), [72])] (by decide +kernel) (y := (72, [some (.ref a0), some (.int x1), some (.int x2), some (.int x3), some (.int x4), some (.int x5), some (.int x6), some (.int x7), some (.int (x8 + 1)), some (.int x9)], [], h)) rfl ?_
      refine en_fg (fg_k (fg_k (fg_k (fg_k (fg_k (fg_k (fg_k (fg_k (fg_k (fg_d fg_0)))))))))) ?_
      exact (ih _ _ _ _ _ _ _ hF).1 _ _ _ _ _ _ _ _ rfl rfl rfl rfl  _ hW _ hQ
    · replace hF := i_neg b21 hF
      refine en_segs [(101, .iload 7, []), (103, .aload_n 0, [])] (by decide +kernel) (y := (104, [some (.ref a0), some (.int x1), some (.int x2), some (.int x3), some (.int x4), some (.int x5), some (.int x6), some (.int x7), some (.int x8), some (.int x9)], [.ref a0, .int x7], h)) rfl ?_
      obtain ⟨r22, hr22, hF⟩ := ob_some hF
      refine en_vi (r := [.int x7]) (by decide +kernel : u_at kl_152 104 = some (.invokevirtual 345, [168, 0, 11])) hW ha0 rfl rfl (Nat.le_of_ble_eq_true rfl) (e_168 (D := D) (by omega) hW ha0 hr22) (fun h hW => ?_)
      have hW : HW (mkw c0 c1 c2 c3 c4 c5 c6 c7 r22.2.1 c9 c10 r22.2.2 c12 c13) d h := hW
      refine en_segs [(107, .iadd, []), (108, .istore 7, []), (110, .iload 6, []), (112, .aload_n 0, [])] (by decide +kernel) (y := (113, [some (.ref a0), some (.int x1), some (.int x2), some (.int x3), some (.int x4), some (.int x5), some (.int x6), some (.int (x7 + r22.1)), some (.int x8), some (.int x9)], [.ref a0, .int x6], h)) rfl ?_
      have k23 : aK d (cR r22.2.2 9 a0) = (0, 8, 0) := wf_obj hW ha0 (by decide) rfl
      refine en_get (by decide +kernel : u_at kl_152 113 = some (.getfield 71, [11, 9])) hW ha0 (by decide) rfl ?_
      refine en_segs [(116, .iload_n 3, [])] (by decide +kernel) (y := (117, [some (.ref a0), some (.int x1), some (.int x2), some (.int x3), some (.int x4), some (.int x5), some (.int x6), some (.int (x7 + r22.1)), some (.int x8), some (.int x9)], [.int x3, .ref (cR r22.2.2 9 a0), .int x6], h)) rfl ?_
      obtain ⟨r24, hr24, hF⟩ := ob_some hF
      refine en_vi (r := [.int x6]) (by decide +kernel : u_at kl_152 117 = some (.invokevirtual 201, [97, 1, 8])) hW k23 rfl rfl (Nat.le_of_ble_eq_true rfl) (e_97 (D := D) (by omega) hW k23 hr24) (fun h' q => ?_)
      subst q
      refine en_segs [(120, .iload 4, [])] (by decide +kernel) (y := (122, [some (.ref a0), some (.int x1), some (.int x2), some (.int x3), some (.int x4), some (.int x5), some (.int x6), some (.int (x7 + r22.1)), some (.int x8), some (.int x9)], [.int x4, .int r24, .int x6], h)) rfl ?_
      obtain ⟨t25, hX, hK⟩ := ob_some hF
      have j26 : ∀ h : UH, HW (mkw c0 c1 c2 c3 c4 c5 c6 c7 r22.2.1 c9 c10 r22.2.2 c12 c13) d h → Ends (EX D) (u_at kl_152) (130, [some (.ref a0), some (.int x1), some (.int x2), some (.int x3), some (.int x4), some (.int x5), some (.int x6), some (.int (x7 + r22.1)), some (.int x8), some (.int x9)], [.int t25, .int x6], h) QQ := by
        intro h hW
        have hF := hK
        refine en_segs [(130, .iadd, []), (131, .istore 6, []), (133, .iinc 9 1, []), (136, .goto (-41), [95])] (by decide +kernel) (y := (95, [some (.ref a0), some (.int x1), some (.int x2), some (.int x3), some (.int x4), some (.int x5), some (.int (x6 + t25)), some (.int (x7 + r22.1)), some (.int x8), some (.int (x9 + 1))], [], h)) rfl ?_
        exact (ih _ _ _ _ _ _ _ hF).2 _ _ _ _ _ _ _ _ _ rfl rfl rfl rfl  _ hW _ hQ
      have hF := hX
      refine en_ic_lt (by decide +kernel : u_at kl_152 122 = some (.if_icmp .lt 7, [129])) (fun b27 => ?_) (fun b27 => ?_)
      · replace hF := i_pos b27 hF
        refine en_segs [(129, .iconst 0, [])] (by decide +kernel) (y := (130, [some (.ref a0), some (.int x1), some (.int x2), some (.int x3), some (.int x4), some (.int x5), some (.int x6), some (.int (x7 + r22.1)), some (.int x8), some (.int x9)], [.int 0, .int x6], h)) rfl ?_
        obtain rfl := Option.some.inj hF
        exact j26 _ hW
      · replace hF := i_neg b27 hF
        refine en_segs [(125, .iconst 1, []), (126, .goto 4, [130])] (by decide +kernel) (y := (130, [some (.ref a0), some (.int x1), some (.int x2), some (.int x3), some (.int x4), some (.int x5), some (.int x6), some (.int (x7 + r22.1)), some (.int x8), some (.int x9)], [.int 1, .int x6], h)) rfl ?_
        obtain rfl := Option.some.inj hF
        exact j26 _ hW
def F_152 (c1 : Cl) (c8 : Cl) (c10 : Cl) (c11 : Cl) (a0 : Nat) (p1 : Int32) (p2 : Int32) (p3 : Int32) (p4 : Int32) (p5 : Int32) : Option (Int32 × Cl × Cl) :=
  if p1 < 1 then
  some ((-1), c8, c11)
  else
  if 20 < p1 then
  some ((-1), c8, c11)
  else
  if p2 < 1 then
  some ((-1), c8, c11)
  else
  if 100 < p2 then
  some ((-1), c8, c11)
  else
  F_162 c1 c8 c10 c11 a0 p3 >>= fun r5 =>
  if r5 = 0 then
  some ((-1), c8, c11)
  else
  F_164 p4 >>= fun r7 =>
  if r7 = 0 then
  some ((-1), c8, c11)
  else
  if p5 < 0 then
  some ((-1), c8, c11)
  else
  if p5 ≤ 1 then
  some (sJ c11 10 a0 ((cI c10 4 (cR c11 7 a0) : Int32).toInt64)) >>= fun c11_12 =>
  G_152 c1 c10 a0 0 [p1, p2, p3, p4, p5, 0, 0, 0] [] [] c8 c11_12
  else
  some ((-1), c8, c11)
set_option maxRecDepth 100000 in
set_option maxHeartbeats 4000000 in
/-- HeadCounts.nights -/
theorem e_152 {D : Nat} {c0 c1 c2 c3 c4 c5 c6 c7 c8 c9 c10 c11 c12 c13 : Cl} {d : Ad} {h : UH} {a0 : Nat} {p1 : Int32} {p2 : Int32} {p3 : Int32} {p4 : Int32} {p5 : Int32} {r : (Int32 × Cl × Cl)} (hD : 5 ≤ D) (hW : HW (mkw c0 c1 c2 c3 c4 c5 c6 c7 c8 c9 c10 c11 c12 c13) d h) (ha0 : aK d a0 = (0, 11, 0)) (hF : F_152 c1 c8 c10 c11 a0 p1 p2 p3 p4 p5 = some r) : ∃ q, EX D 152 [.ref a0, .int p1, .int p2, .int p3, .int p4, .int p5] h q ∧ q.1 = some (.int r.1) ∧ HW (mkw c0 c1 c2 c3 c4 c5 c6 c7 r.2.1 c9 c10 r.2.2 c12 c13) d q.2 := by
  obtain ⟨D, rfl⟩ : ∃ E, D = E + 1 := ⟨D - 1, by omega⟩
  unfold F_152 at hF
  refine ex_in (kl := kl_152) (nL := 10) rfl (by decide +kernel) (Nat.le_of_ble_eq_true rfl) ?_
  obtain ⟨QQ, hQQ⟩ : ∃ QQ : UR → Prop, QQ = (fun q : UR => q.1 = some (.int r.1) ∧ HW (mkw c0 c1 c2 c3 c4 c5 c6 c7 r.2.1 c9 c10 r.2.2 c12 c13) d q.2) := ⟨_, rfl⟩
  rw [← hQQ]
  have hQ : ∀ h' : UH, HW (mkw c0 c1 c2 c3 c4 c5 c6 c7 r.2.1 c9 c10 r.2.2 c12 c13) d h' → QQ (some (.int r.1), h') := fun h' p => by rw [hQQ]; exact ⟨rfl, p⟩
  clear hQQ
  show Ends (EX D) (u_at kl_152) (0, [some (.ref a0), some (.int p1), some (.int p2), some (.int p3), some (.int p4), some (.int p5), none, none, none, none], [], h) QQ
  refine en_segs [(0, .iload_n 1, []), (1, .iconst 1, [])] (by decide +kernel) (y := (2, [some (.ref a0), some (.int p1), some (.int p2), some (.int p3), some (.int p4), some (.int p5), none, none, none, none], [.int 1, .int p1], h)) rfl ?_
  refine en_ic_lt (by decide +kernel : u_at kl_152 2 = some (.if_icmp .lt 47, [49])) (fun b1 => ?_) (fun b1 => ?_)
  · replace hF := i_pos b1 hF
    refine en_segs [(49, .iconst (-1), [])] (by decide +kernel) (y := (50, [some (.ref a0), some (.int p1), some (.int p2), some (.int p3), some (.int p4), some (.int p5), none, none, none, none], [.int (-1)], h)) rfl ?_
    obtain rfl := Option.some.inj hF
    exact en_ret (by decide +kernel : u_at kl_152 50 = some (.ireturn, [0])) rfl (hQ _ hW)
  · replace hF := i_neg b1 hF
    refine en_segs [(5, .iload_n 1, []), (6, .bipush 20, [])] (by decide +kernel) (y := (8, [some (.ref a0), some (.int p1), some (.int p2), some (.int p3), some (.int p4), some (.int p5), none, none, none, none], [.int 20, .int p1], h)) rfl ?_
    refine en_ic_gt (by decide +kernel : u_at kl_152 8 = some (.if_icmp .gt 41, [49])) (fun b2 => ?_) (fun b2 => ?_)
    · replace hF := i_pos b2 hF
      refine en_segs [(49, .iconst (-1), [])] (by decide +kernel) (y := (50, [some (.ref a0), some (.int p1), some (.int p2), some (.int p3), some (.int p4), some (.int p5), none, none, none, none], [.int (-1)], h)) rfl ?_
      obtain rfl := Option.some.inj hF
      exact en_ret (by decide +kernel : u_at kl_152 50 = some (.ireturn, [0])) rfl (hQ _ hW)
    · replace hF := i_neg b2 hF
      refine en_segs [(11, .iload_n 2, []), (12, .iconst 1, [])] (by decide +kernel) (y := (13, [some (.ref a0), some (.int p1), some (.int p2), some (.int p3), some (.int p4), some (.int p5), none, none, none, none], [.int 1, .int p2], h)) rfl ?_
      refine en_ic_lt (by decide +kernel : u_at kl_152 13 = some (.if_icmp .lt 36, [49])) (fun b3 => ?_) (fun b3 => ?_)
      · replace hF := i_pos b3 hF
        refine en_segs [(49, .iconst (-1), [])] (by decide +kernel) (y := (50, [some (.ref a0), some (.int p1), some (.int p2), some (.int p3), some (.int p4), some (.int p5), none, none, none, none], [.int (-1)], h)) rfl ?_
        obtain rfl := Option.some.inj hF
        exact en_ret (by decide +kernel : u_at kl_152 50 = some (.ireturn, [0])) rfl (hQ _ hW)
      · replace hF := i_neg b3 hF
        refine en_segs [(16, .iload_n 2, []), (17, .bipush 100, [])] (by decide +kernel) (y := (19, [some (.ref a0), some (.int p1), some (.int p2), some (.int p3), some (.int p4), some (.int p5), none, none, none, none], [.int 100, .int p2], h)) rfl ?_
        refine en_ic_gt (by decide +kernel : u_at kl_152 19 = some (.if_icmp .gt 30, [49])) (fun b4 => ?_) (fun b4 => ?_)
        · replace hF := i_pos b4 hF
          refine en_segs [(49, .iconst (-1), [])] (by decide +kernel) (y := (50, [some (.ref a0), some (.int p1), some (.int p2), some (.int p3), some (.int p4), some (.int p5), none, none, none, none], [.int (-1)], h)) rfl ?_
          obtain rfl := Option.some.inj hF
          exact en_ret (by decide +kernel : u_at kl_152 50 = some (.ireturn, [0])) rfl (hQ _ hW)
        · replace hF := i_neg b4 hF
          refine en_segs [(22, .aload_n 0, []), (23, .iload_n 3, [])] (by decide +kernel) (y := (24, [some (.ref a0), some (.int p1), some (.int p2), some (.int p3), some (.int p4), some (.int p5), none, none, none, none], [.int p3, .ref a0], h)) rfl ?_
          obtain ⟨r5, hr5, hF⟩ := ob_some hF
          refine en_vi (r := []) (by decide +kernel : u_at kl_152 24 = some (.invokevirtual 195, [162, 1, 11])) hW ha0 rfl rfl (Nat.le_of_ble_eq_true rfl) (e_162 (D := D) (by omega) hW ha0 hr5) (fun h' q => ?_)
          subst q
          refine en_if_eq (by decide +kernel : u_at kl_152 27 = some (.ifCond .eq 22, [49])) (fun b6 => ?_) (fun b6 => ?_)
          · replace hF := i_pos b6 hF
            refine en_segs [(49, .iconst (-1), [])] (by decide +kernel) (y := (50, [some (.ref a0), some (.int p1), some (.int p2), some (.int p3), some (.int p4), some (.int p5), none, none, none, none], [.int (-1)], h)) rfl ?_
            obtain rfl := Option.some.inj hF
            exact en_ret (by decide +kernel : u_at kl_152 50 = some (.ireturn, [0])) rfl (hQ _ hW)
          · replace hF := i_neg b6 hF
            refine en_segs [(30, .iload 4, [])] (by decide +kernel) (y := (32, [some (.ref a0), some (.int p1), some (.int p2), some (.int p3), some (.int p4), some (.int p5), none, none, none, none], [.int p4], h)) rfl ?_
            obtain ⟨r7, hr7, hF⟩ := ob_some hF
            refine en_si (r := []) (by decide +kernel : u_at kl_152 32 = some (.invokestatic 255, [164, 1])) rfl rfl (Nat.le_of_ble_eq_true rfl) (e_164 (D := D) (by omega) hW hr7) (fun h' q => ?_)
            subst q
            refine en_if_eq (by decide +kernel : u_at kl_152 35 = some (.ifCond .eq 14, [49])) (fun b8 => ?_) (fun b8 => ?_)
            · replace hF := i_pos b8 hF
              refine en_segs [(49, .iconst (-1), [])] (by decide +kernel) (y := (50, [some (.ref a0), some (.int p1), some (.int p2), some (.int p3), some (.int p4), some (.int p5), none, none, none, none], [.int (-1)], h)) rfl ?_
              obtain rfl := Option.some.inj hF
              exact en_ret (by decide +kernel : u_at kl_152 50 = some (.ireturn, [0])) rfl (hQ _ hW)
            · replace hF := i_neg b8 hF
              refine en_segs [(38, .iload 5, [])] (by decide +kernel) (y := (40, [some (.ref a0), some (.int p1), some (.int p2), some (.int p3), some (.int p4), some (.int p5), none, none, none, none], [.int p5], h)) rfl ?_
              refine en_if_lt (by decide +kernel : u_at kl_152 40 = some (.ifCond .lt 9, [49])) (fun b9 => ?_) (fun b9 => ?_)
              · replace hF := i_pos b9 hF
                refine en_segs [(49, .iconst (-1), [])] (by decide +kernel) (y := (50, [some (.ref a0), some (.int p1), some (.int p2), some (.int p3), some (.int p4), some (.int p5), none, none, none, none], [.int (-1)], h)) rfl ?_
                obtain rfl := Option.some.inj hF
                exact en_ret (by decide +kernel : u_at kl_152 50 = some (.ireturn, [0])) rfl (hQ _ hW)
              · replace hF := i_neg b9 hF
                refine en_segs [(43, .iload 5, []), (45, .iconst 1, [])] (by decide +kernel) (y := (46, [some (.ref a0), some (.int p1), some (.int p2), some (.int p3), some (.int p4), some (.int p5), none, none, none, none], [.int 1, .int p5], h)) rfl ?_
                refine en_ic_le (by decide +kernel : u_at kl_152 46 = some (.if_icmp .le 5, [51])) (fun b10 => ?_) (fun b10 => ?_)
                · replace hF := i_pos b10 hF
                  refine en_segs [(51, .aload_n 0, []), (52, .aload_n 0, [])] (by decide +kernel) (y := (53, [some (.ref a0), some (.int p1), some (.int p2), some (.int p3), some (.int p4), some (.int p5), none, none, none, none], [.ref a0, .ref a0], h)) rfl ?_
                  have k11 : aK d (cR c11 7 a0) = (0, 10, 0) := wf_obj hW ha0 (by decide) rfl
                  refine en_get (by decide +kernel : u_at kl_152 53 = some (.getfield 52, [11, 7])) hW ha0 (by decide) rfl ?_
                  refine en_get (by decide +kernel : u_at kl_152 56 = some (.getfield 336, [10, 4])) hW k11 (by decide) rfl ?_
                  refine en_segs [(59, .i2l, [])] (by decide +kernel) (y := (60, [some (.ref a0), some (.int p1), some (.int p2), some (.int p3), some (.int p4), some (.int p5), none, none, none, none], [.long ((cI c10 4 (cR c11 7 a0) : Int32).toInt64), .ref a0], h)) rfl ?_
                  obtain ⟨c11_12, hc11_12, hF⟩ := ob_some hF
                  refine en_putJ (by decide +kernel : u_at kl_152 60 = some (.putfield 339, [11, 10, 1])) hW ha0 rfl (by decide) rfl (fun h hW => ?_)
                  have hW : HW (mkw c0 c1 c2 c3 c4 c5 c6 c7 c8 c9 c10 c11_12 c12 c13) d h := by rw [← Option.some.inj hc11_12]; exact hW
                  refine en_segs [(63, .iconst 0, []), (64, .istore 6, []), (66, .iconst 0, []), (67, .istore 7, []), (69, .iconst 0, []), (70, .istore 8, [])] (by decide +kernel) (y := (72, [some (.ref a0), some (.int p1), some (.int p2), some (.int p3), some (.int p4), some (.int p5), some (.int 0), some (.int 0), some (.int 0), none], [], h)) rfl ?_
                  exact (g_152 (D := D) hD (d := d) ha0 _ _ _ _ _ _ _ hF).1 _ _ _ _ _ _ _ _ rfl rfl rfl rfl  _ hW _ hQ
                · replace hF := i_neg b10 hF
                  refine en_segs [(49, .iconst (-1), [])] (by decide +kernel) (y := (50, [some (.ref a0), some (.int p1), some (.int p2), some (.int p3), some (.int p4), some (.int p5), none, none, none, none], [.int (-1)], h)) rfl ?_
                  obtain rfl := Option.some.inj hF
                  exact en_ret (by decide +kernel : u_at kl_152 50 = some (.ireturn, [0])) rfl (hQ _ hW)
def F_153 (c1 : Cl) (c8 : Cl) (c10 : Cl) (c11 : Cl) (a0 : Nat) (p1 : Int32) : Option Int32 :=
  if p1 = 0 then
  some (cI c1 0 (cR c8 0 (cR c10 0 (cR c11 7 a0))))
  else
  if p1 = 1 then
  some (cI c1 1 (cR c8 0 (cR c10 0 (cR c11 7 a0))))
  else
  if p1 = 2 then
  some (cI c1 2 (cR c8 0 (cR c10 0 (cR c11 7 a0))))
  else
  if p1 = 3 then
  some (cI c1 3 (cR c8 0 (cR c10 0 (cR c11 7 a0))))
  else
  if p1 = 4 then
  some (cI c11 6 a0)
  else
  if p1 = 5 then
  some (cI c8 1 (cR c10 0 (cR c11 7 a0)))
  else
  if p1 = 6 then
  F_99 c1 c8 (cR c10 0 (cR c11 7 a0)) >>= fun r14 =>
  some r14
  else
  if p1 = 7 then
  some (cI c8 3 (cR c10 0 (cR c11 7 a0)))
  else
  if p1 = 8 then
  some (cI c10 5 (cR c11 7 a0))
  else
  if p1 = 9 then
  some (cI c10 3 (cR c11 7 a0))
  else
  if p1 = 10 then
  F_100 c1 c8 (cR c10 0 (cR c11 7 a0)) >>= fun r19 =>
  some r19
  else
  if p1 = 11 then
  F_157 c1 c8 c10 c11 a0 >>= fun r21 =>
  ((if r21 = 0 then
  some (-1)
  else
  some (cI c1 4 (cR c8 0 (cR c10 0 (cR c11 7 a0))))) : Option (Int32)) >>= fun (t22 : Int32) =>
  some t22
  else
  if p1 = 12 then
  some (cI c10 4 (cR c11 7 a0))
  else
  if p1 = 13 then
  some (cI c11 1 a0)
  else
  some (-1)
set_option maxRecDepth 100000 in
set_option maxHeartbeats 4000000 in
/-- HeadCounts.count -/
theorem e_153 {D : Nat} {c0 c1 c2 c3 c4 c5 c6 c7 c8 c9 c10 c11 c12 c13 : Cl} {d : Ad} {h : UH} {a0 : Nat} {p1 : Int32} {r : Int32} (hD : 3 ≤ D) (hW : HW (mkw c0 c1 c2 c3 c4 c5 c6 c7 c8 c9 c10 c11 c12 c13) d h) (ha0 : aK d a0 = (0, 11, 0)) (hF : F_153 c1 c8 c10 c11 a0 p1 = some r) : ∃ q, EX D 153 [.ref a0, .int p1] h q ∧ q.1 = some (.int r) ∧ h = q.2 := by
  obtain ⟨D, rfl⟩ : ∃ E, D = E + 1 := ⟨D - 1, by omega⟩
  unfold F_153 at hF
  refine ex_in (kl := kl_153) (nL := 3) rfl (by decide +kernel) (Nat.le_of_ble_eq_true rfl) ?_
  obtain ⟨QQ, hQQ⟩ : ∃ QQ : UR → Prop, QQ = (fun q : UR => q.1 = some (.int r) ∧ h = q.2) := ⟨_, rfl⟩
  rw [← hQQ]
  have hQ : QQ (some (.int r), h) := by rw [hQQ]; exact ⟨rfl, rfl⟩
  clear hQQ
  show Ends (EX D) (u_at kl_153) (0, [some (.ref a0), some (.int p1), none], [], h) QQ
  refine en_segs [(0, .aload_n 0, [])] (by decide +kernel) (y := (1, [some (.ref a0), some (.int p1), none], [.ref a0], h)) rfl ?_
  have k1 : aK d (cR c11 7 a0) = (0, 10, 0) := wf_obj hW ha0 (by decide) rfl
  refine en_get (by decide +kernel : u_at kl_153 1 = some (.getfield 52, [11, 7])) hW ha0 (by decide) rfl ?_
  have k2 : aK d (cR c10 0 (cR c11 7 a0)) = (0, 8, 0) := wf_obj hW k1 (by decide) rfl
  refine en_get (by decide +kernel : u_at kl_153 4 = some (.getfield 62, [10, 0])) hW k1 (by decide) rfl ?_
  refine en_segs [(7, .astore_n 2, []), (8, .iload_n 1, [])] (by decide +kernel) (y := (9, [some (.ref a0), some (.int p1), some (.ref (cR c10 0 (cR c11 7 a0)))], [.int p1], h)) rfl ?_
  by_cases b3 : p1 = 0
  · replace hF := i_pos b3 hF
    refine en_tsC (by decide +kernel : u_at kl_153 9 = some (.tableswitch 176 0 13 #[71, 79, 87, 95, 103, 108, 113, 118, 123, 131, 139, 144, 163, 171], [185, 80, 88, 96, 104, 112, 117, 122, 127, 132, 140, 148, 153, 172, 180])) (by rw [b3]; decide) (u := 80) (by rw [b3]; rfl) ?_
    refine en_segs [(80, .aload_n 2, [])] (by decide +kernel) (y := (81, [some (.ref a0), some (.int p1), some (.ref (cR c10 0 (cR c11 7 a0)))], [.ref (cR c10 0 (cR c11 7 a0))], h)) rfl ?_
    have k4 : aK d (cR c8 0 (cR c10 0 (cR c11 7 a0))) = (0, 1, 0) := wf_obj hW k2 (by decide) rfl
    refine en_get (by decide +kernel : u_at kl_153 81 = some (.getfield 66, [8, 0])) hW k2 (by decide) rfl ?_
    refine en_get (by decide +kernel : u_at kl_153 84 = some (.getfield 288, [1, 0])) hW k4 (by decide) rfl ?_
    obtain rfl := Option.some.inj hF
    exact en_ret (by decide +kernel : u_at kl_153 87 = some (.ireturn, [0])) rfl (hQ)
  · replace hF := i_neg b3 hF
    by_cases b5 : p1 = 1
    · replace hF := i_pos b5 hF
      refine en_tsC (by decide +kernel : u_at kl_153 9 = some (.tableswitch 176 0 13 #[71, 79, 87, 95, 103, 108, 113, 118, 123, 131, 139, 144, 163, 171], [185, 80, 88, 96, 104, 112, 117, 122, 127, 132, 140, 148, 153, 172, 180])) (by rw [b5]; decide) (u := 88) (by rw [b5]; rfl) ?_
      refine en_segs [(88, .aload_n 2, [])] (by decide +kernel) (y := (89, [some (.ref a0), some (.int p1), some (.ref (cR c10 0 (cR c11 7 a0)))], [.ref (cR c10 0 (cR c11 7 a0))], h)) rfl ?_
      have k6 : aK d (cR c8 0 (cR c10 0 (cR c11 7 a0))) = (0, 1, 0) := wf_obj hW k2 (by decide) rfl
      refine en_get (by decide +kernel : u_at kl_153 89 = some (.getfield 66, [8, 0])) hW k2 (by decide) rfl ?_
      refine en_get (by decide +kernel : u_at kl_153 92 = some (.getfield 348, [1, 1])) hW k6 (by decide) rfl ?_
      obtain rfl := Option.some.inj hF
      exact en_ret (by decide +kernel : u_at kl_153 95 = some (.ireturn, [0])) rfl (hQ)
    · replace hF := i_neg b5 hF
      by_cases b7 : p1 = 2
      · replace hF := i_pos b7 hF
        refine en_tsC (by decide +kernel : u_at kl_153 9 = some (.tableswitch 176 0 13 #[71, 79, 87, 95, 103, 108, 113, 118, 123, 131, 139, 144, 163, 171], [185, 80, 88, 96, 104, 112, 117, 122, 127, 132, 140, 148, 153, 172, 180])) (by rw [b7]; decide) (u := 96) (by rw [b7]; rfl) ?_
        refine en_segs [(96, .aload_n 2, [])] (by decide +kernel) (y := (97, [some (.ref a0), some (.int p1), some (.ref (cR c10 0 (cR c11 7 a0)))], [.ref (cR c10 0 (cR c11 7 a0))], h)) rfl ?_
        have k8 : aK d (cR c8 0 (cR c10 0 (cR c11 7 a0))) = (0, 1, 0) := wf_obj hW k2 (by decide) rfl
        refine en_get (by decide +kernel : u_at kl_153 97 = some (.getfield 66, [8, 0])) hW k2 (by decide) rfl ?_
        refine en_get (by decide +kernel : u_at kl_153 100 = some (.getfield 126, [1, 2])) hW k8 (by decide) rfl ?_
        obtain rfl := Option.some.inj hF
        exact en_ret (by decide +kernel : u_at kl_153 103 = some (.ireturn, [0])) rfl (hQ)
      · replace hF := i_neg b7 hF
        by_cases b9 : p1 = 3
        · replace hF := i_pos b9 hF
          refine en_tsC (by decide +kernel : u_at kl_153 9 = some (.tableswitch 176 0 13 #[71, 79, 87, 95, 103, 108, 113, 118, 123, 131, 139, 144, 163, 171], [185, 80, 88, 96, 104, 112, 117, 122, 127, 132, 140, 148, 153, 172, 180])) (by rw [b9]; decide) (u := 104) (by rw [b9]; rfl) ?_
          refine en_segs [(104, .aload_n 2, [])] (by decide +kernel) (y := (105, [some (.ref a0), some (.int p1), some (.ref (cR c10 0 (cR c11 7 a0)))], [.ref (cR c10 0 (cR c11 7 a0))], h)) rfl ?_
          have k10 : aK d (cR c8 0 (cR c10 0 (cR c11 7 a0))) = (0, 1, 0) := wf_obj hW k2 (by decide) rfl
          refine en_get (by decide +kernel : u_at kl_153 105 = some (.getfield 66, [8, 0])) hW k2 (by decide) rfl ?_
          refine en_get (by decide +kernel : u_at kl_153 108 = some (.getfield 351, [1, 3])) hW k10 (by decide) rfl ?_
          obtain rfl := Option.some.inj hF
          exact en_ret (by decide +kernel : u_at kl_153 111 = some (.ireturn, [0])) rfl (hQ)
        · replace hF := i_neg b9 hF
          by_cases b11 : p1 = 4
          · replace hF := i_pos b11 hF
            refine en_tsC (by decide +kernel : u_at kl_153 9 = some (.tableswitch 176 0 13 #[71, 79, 87, 95, 103, 108, 113, 118, 123, 131, 139, 144, 163, 171], [185, 80, 88, 96, 104, 112, 117, 122, 127, 132, 140, 148, 153, 172, 180])) (by rw [b11]; decide) (u := 112) (by rw [b11]; rfl) ?_
            refine en_segs [(112, .aload_n 0, [])] (by decide +kernel) (y := (113, [some (.ref a0), some (.int p1), some (.ref (cR c10 0 (cR c11 7 a0)))], [.ref a0], h)) rfl ?_
            refine en_get (by decide +kernel : u_at kl_153 113 = some (.getfield 129, [11, 6])) hW ha0 (by decide) rfl ?_
            obtain rfl := Option.some.inj hF
            exact en_ret (by decide +kernel : u_at kl_153 116 = some (.ireturn, [0])) rfl (hQ)
          · replace hF := i_neg b11 hF
            by_cases b12 : p1 = 5
            · replace hF := i_pos b12 hF
              refine en_tsC (by decide +kernel : u_at kl_153 9 = some (.tableswitch 176 0 13 #[71, 79, 87, 95, 103, 108, 113, 118, 123, 131, 139, 144, 163, 171], [185, 80, 88, 96, 104, 112, 117, 122, 127, 132, 140, 148, 153, 172, 180])) (by rw [b12]; decide) (u := 117) (by rw [b12]; rfl) ?_
              refine en_segs [(117, .aload_n 2, [])] (by decide +kernel) (y := (118, [some (.ref a0), some (.int p1), some (.ref (cR c10 0 (cR c11 7 a0)))], [.ref (cR c10 0 (cR c11 7 a0))], h)) rfl ?_
              refine en_get (by decide +kernel : u_at kl_153 118 = some (.getfield 204, [8, 1])) hW k2 (by decide) rfl ?_
              obtain rfl := Option.some.inj hF
              exact en_ret (by decide +kernel : u_at kl_153 121 = some (.ireturn, [0])) rfl (hQ)
            · replace hF := i_neg b12 hF
              by_cases b13 : p1 = 6
              · replace hF := i_pos b13 hF
                refine en_tsC (by decide +kernel : u_at kl_153 9 = some (.tableswitch 176 0 13 #[71, 79, 87, 95, 103, 108, 113, 118, 123, 131, 139, 144, 163, 171], [185, 80, 88, 96, 104, 112, 117, 122, 127, 132, 140, 148, 153, 172, 180])) (by rw [b13]; decide) (u := 122) (by rw [b13]; rfl) ?_
                refine en_segs [(122, .aload_n 2, [])] (by decide +kernel) (y := (123, [some (.ref a0), some (.int p1), some (.ref (cR c10 0 (cR c11 7 a0)))], [.ref (cR c10 0 (cR c11 7 a0))], h)) rfl ?_
                obtain ⟨r14, hr14, hF⟩ := ob_some hF
                refine en_vi (r := []) (by decide +kernel : u_at kl_153 123 = some (.invokevirtual 354, [99, 0, 8])) hW k2 rfl rfl (Nat.le_of_ble_eq_true rfl) (e_99 (D := D) (by omega) hW k2 hr14) (fun h' q => ?_)
                subst q
                obtain rfl := Option.some.inj hF
                exact en_ret (by decide +kernel : u_at kl_153 126 = some (.ireturn, [0])) rfl (hQ)
              · replace hF := i_neg b13 hF
                by_cases b15 : p1 = 7
                · replace hF := i_pos b15 hF
                  refine en_tsC (by decide +kernel : u_at kl_153 9 = some (.tableswitch 176 0 13 #[71, 79, 87, 95, 103, 108, 113, 118, 123, 131, 139, 144, 163, 171], [185, 80, 88, 96, 104, 112, 117, 122, 127, 132, 140, 148, 153, 172, 180])) (by rw [b15]; decide) (u := 127) (by rw [b15]; rfl) ?_
                  refine en_segs [(127, .aload_n 2, [])] (by decide +kernel) (y := (128, [some (.ref a0), some (.int p1), some (.ref (cR c10 0 (cR c11 7 a0)))], [.ref (cR c10 0 (cR c11 7 a0))], h)) rfl ?_
                  refine en_get (by decide +kernel : u_at kl_153 128 = some (.getfield 357, [8, 3])) hW k2 (by decide) rfl ?_
                  obtain rfl := Option.some.inj hF
                  exact en_ret (by decide +kernel : u_at kl_153 131 = some (.ireturn, [0])) rfl (hQ)
                · replace hF := i_neg b15 hF
                  by_cases b16 : p1 = 8
                  · replace hF := i_pos b16 hF
                    refine en_tsC (by decide +kernel : u_at kl_153 9 = some (.tableswitch 176 0 13 #[71, 79, 87, 95, 103, 108, 113, 118, 123, 131, 139, 144, 163, 171], [185, 80, 88, 96, 104, 112, 117, 122, 127, 132, 140, 148, 153, 172, 180])) (by rw [b16]; decide) (u := 132) (by rw [b16]; rfl) ?_
                    refine en_segs [(132, .aload_n 0, [])] (by decide +kernel) (y := (133, [some (.ref a0), some (.int p1), some (.ref (cR c10 0 (cR c11 7 a0)))], [.ref a0], h)) rfl ?_
                    refine en_get (by decide +kernel : u_at kl_153 133 = some (.getfield 52, [11, 7])) hW ha0 (by decide) rfl ?_
                    refine en_get (by decide +kernel : u_at kl_153 136 = some (.getfield 252, [10, 5])) hW k1 (by decide) rfl ?_
                    obtain rfl := Option.some.inj hF
                    exact en_ret (by decide +kernel : u_at kl_153 139 = some (.ireturn, [0])) rfl (hQ)
                  · replace hF := i_neg b16 hF
                    by_cases b17 : p1 = 9
                    · replace hF := i_pos b17 hF
                      refine en_tsC (by decide +kernel : u_at kl_153 9 = some (.tableswitch 176 0 13 #[71, 79, 87, 95, 103, 108, 113, 118, 123, 131, 139, 144, 163, 171], [185, 80, 88, 96, 104, 112, 117, 122, 127, 132, 140, 148, 153, 172, 180])) (by rw [b17]; decide) (u := 140) (by rw [b17]; rfl) ?_
                      refine en_segs [(140, .aload_n 0, [])] (by decide +kernel) (y := (141, [some (.ref a0), some (.int p1), some (.ref (cR c10 0 (cR c11 7 a0)))], [.ref a0], h)) rfl ?_
                      refine en_get (by decide +kernel : u_at kl_153 141 = some (.getfield 52, [11, 7])) hW ha0 (by decide) rfl ?_
                      refine en_get (by decide +kernel : u_at kl_153 144 = some (.getfield 232, [10, 3])) hW k1 (by decide) rfl ?_
                      obtain rfl := Option.some.inj hF
                      exact en_ret (by decide +kernel : u_at kl_153 147 = some (.ireturn, [0])) rfl (hQ)
                    · replace hF := i_neg b17 hF
                      by_cases b18 : p1 = 10
                      · replace hF := i_pos b18 hF
                        refine en_tsC (by decide +kernel : u_at kl_153 9 = some (.tableswitch 176 0 13 #[71, 79, 87, 95, 103, 108, 113, 118, 123, 131, 139, 144, 163, 171], [185, 80, 88, 96, 104, 112, 117, 122, 127, 132, 140, 148, 153, 172, 180])) (by rw [b18]; decide) (u := 148) (by rw [b18]; rfl) ?_
                        refine en_segs [(148, .aload_n 2, [])] (by decide +kernel) (y := (149, [some (.ref a0), some (.int p1), some (.ref (cR c10 0 (cR c11 7 a0)))], [.ref (cR c10 0 (cR c11 7 a0))], h)) rfl ?_
                        obtain ⟨r19, hr19, hF⟩ := ob_some hF
                        refine en_vi (r := []) (by decide +kernel : u_at kl_153 149 = some (.invokevirtual 360, [100, 0, 8])) hW k2 rfl rfl (Nat.le_of_ble_eq_true rfl) (e_100 (D := D) (by omega) hW k2 hr19) (fun h' q => ?_)
                        subst q
                        obtain rfl := Option.some.inj hF
                        exact en_ret (by decide +kernel : u_at kl_153 152 = some (.ireturn, [0])) rfl (hQ)
                      · replace hF := i_neg b18 hF
                        by_cases b20 : p1 = 11
                        · replace hF := i_pos b20 hF
                          refine en_tsC (by decide +kernel : u_at kl_153 9 = some (.tableswitch 176 0 13 #[71, 79, 87, 95, 103, 108, 113, 118, 123, 131, 139, 144, 163, 171], [185, 80, 88, 96, 104, 112, 117, 122, 127, 132, 140, 148, 153, 172, 180])) (by rw [b20]; decide) (u := 153) (by rw [b20]; rfl) ?_
                          refine en_segs [(153, .aload_n 0, [])] (by decide +kernel) (y := (154, [some (.ref a0), some (.int p1), some (.ref (cR c10 0 (cR c11 7 a0)))], [.ref a0], h)) rfl ?_
                          obtain ⟨r21, hr21, hF⟩ := ob_some hF
                          refine en_vi (r := []) (by decide +kernel : u_at kl_153 154 = some (.invokevirtual 222, [157, 0, 11])) hW ha0 rfl rfl (Nat.le_of_ble_eq_true rfl) (e_157 (D := D) (by omega) hW ha0 hr21) (fun h' q => ?_)
                          subst q
                          obtain ⟨t22, hX, hK⟩ := ob_some hF
                          have j23 : Ends (EX D) (u_at kl_153) (171, [some (.ref a0), some (.int p1), some (.ref (cR c10 0 (cR c11 7 a0)))], [.int t22], h) QQ := by
                            have hF := hK
                            obtain rfl := Option.some.inj hF
                            exact en_ret (by decide +kernel : u_at kl_153 171 = some (.ireturn, [0])) rfl (hQ)
                          have hF := hX
                          refine en_if_eq (by decide +kernel : u_at kl_153 157 = some (.ifCond .eq 13, [170])) (fun b24 => ?_) (fun b24 => ?_)
                          · replace hF := i_pos b24 hF
                            refine en_segs [(170, .iconst (-1), [])] (by decide +kernel) (y := (171, [some (.ref a0), some (.int p1), some (.ref (cR c10 0 (cR c11 7 a0)))], [.int (-1)], h)) rfl ?_
                            obtain rfl := Option.some.inj hF
                            exact j23
                          · replace hF := i_neg b24 hF
                            refine en_segs [(160, .aload_n 2, [])] (by decide +kernel) (y := (161, [some (.ref a0), some (.int p1), some (.ref (cR c10 0 (cR c11 7 a0)))], [.ref (cR c10 0 (cR c11 7 a0))], h)) rfl ?_
                            have k25 : aK d (cR c8 0 (cR c10 0 (cR c11 7 a0))) = (0, 1, 0) := wf_obj hW k2 (by decide) rfl
                            refine en_get (by decide +kernel : u_at kl_153 161 = some (.getfield 66, [8, 0])) hW k2 (by decide) rfl ?_
                            refine en_get (by decide +kernel : u_at kl_153 164 = some (.getfield 363, [1, 4])) hW k25 (by decide) rfl ?_
                            refine en_segs [(167, .goto 4, [171])] (by decide +kernel) (y := (171, [some (.ref a0), some (.int p1), some (.ref (cR c10 0 (cR c11 7 a0)))], [.int (cI c1 4 (cR c8 0 (cR c10 0 (cR c11 7 a0))))], h)) rfl ?_
                            obtain rfl := Option.some.inj hF
                            exact j23
                        · replace hF := i_neg b20 hF
                          by_cases b26 : p1 = 12
                          · replace hF := i_pos b26 hF
                            refine en_tsC (by decide +kernel : u_at kl_153 9 = some (.tableswitch 176 0 13 #[71, 79, 87, 95, 103, 108, 113, 118, 123, 131, 139, 144, 163, 171], [185, 80, 88, 96, 104, 112, 117, 122, 127, 132, 140, 148, 153, 172, 180])) (by rw [b26]; decide) (u := 172) (by rw [b26]; rfl) ?_
                            refine en_segs [(172, .aload_n 0, [])] (by decide +kernel) (y := (173, [some (.ref a0), some (.int p1), some (.ref (cR c10 0 (cR c11 7 a0)))], [.ref a0], h)) rfl ?_
                            refine en_get (by decide +kernel : u_at kl_153 173 = some (.getfield 52, [11, 7])) hW ha0 (by decide) rfl ?_
                            refine en_get (by decide +kernel : u_at kl_153 176 = some (.getfield 336, [10, 4])) hW k1 (by decide) rfl ?_
                            obtain rfl := Option.some.inj hF
                            exact en_ret (by decide +kernel : u_at kl_153 179 = some (.ireturn, [0])) rfl (hQ)
                          · replace hF := i_neg b26 hF
                            by_cases b27 : p1 = 13
                            · replace hF := i_pos b27 hF
                              refine en_tsC (by decide +kernel : u_at kl_153 9 = some (.tableswitch 176 0 13 #[71, 79, 87, 95, 103, 108, 113, 118, 123, 131, 139, 144, 163, 171], [185, 80, 88, 96, 104, 112, 117, 122, 127, 132, 140, 148, 153, 172, 180])) (by rw [b27]; decide) (u := 180) (by rw [b27]; rfl) ?_
                              refine en_segs [(180, .aload_n 0, [])] (by decide +kernel) (y := (181, [some (.ref a0), some (.int p1), some (.ref (cR c10 0 (cR c11 7 a0)))], [.ref a0], h)) rfl ?_
                              refine en_get (by decide +kernel : u_at kl_153 181 = some (.getfield 104, [11, 1])) hW ha0 (by decide) rfl ?_
                              obtain rfl := Option.some.inj hF
                              exact en_ret (by decide +kernel : u_at kl_153 184 = some (.ireturn, [0])) rfl (hQ)
                            · replace hF := i_neg b27 hF
                              have wb3 : (p1 : Int32).toInt ≠ 0 := ti_ne b3
                              have wb5 : (p1 : Int32).toInt ≠ 1 := ti_ne b5
                              have wb7 : (p1 : Int32).toInt ≠ 2 := ti_ne b7
                              have wb9 : (p1 : Int32).toInt ≠ 3 := ti_ne b9
                              have wb11 : (p1 : Int32).toInt ≠ 4 := ti_ne b11
                              have wb12 : (p1 : Int32).toInt ≠ 5 := ti_ne b12
                              have wb13 : (p1 : Int32).toInt ≠ 6 := ti_ne b13
                              have wb15 : (p1 : Int32).toInt ≠ 7 := ti_ne b15
                              have wb16 : (p1 : Int32).toInt ≠ 8 := ti_ne b16
                              have wb17 : (p1 : Int32).toInt ≠ 9 := ti_ne b17
                              have wb18 : (p1 : Int32).toInt ≠ 10 := ti_ne b18
                              have wb20 : (p1 : Int32).toInt ≠ 11 := ti_ne b20
                              have wb26 : (p1 : Int32).toInt ≠ 12 := ti_ne b26
                              have wb27 : (p1 : Int32).toInt ≠ 13 := ti_ne b27
                              refine en_tsO (by decide +kernel : u_at kl_153 9 = some (.tableswitch 176 0 13 #[71, 79, 87, 95, 103, 108, 113, 118, 123, 131, 139, 144, 163, 171], [185, 80, 88, 96, 104, 112, 117, 122, 127, 132, 140, 148, 153, 172, 180])) (by omega) ?_
                              refine en_segs [(185, .iconst (-1), [])] (by decide +kernel) (y := (186, [some (.ref a0), some (.int p1), some (.ref (cR c10 0 (cR c11 7 a0)))], [.int (-1)], h)) rfl ?_
                              obtain rfl := Option.some.inj hF
                              exact en_ret (by decide +kernel : u_at kl_153 186 = some (.ireturn, [0])) rfl (hQ)
def F_170 (p1 : Int64) (p2 : Int64) (p3 : Int64) : Option Int32 :=
  ((if (lg_cmp p1 p2) < 0 then
  some 0
  else
  if 0 < (lg_cmp p1 p3) then
  some 0
  else
  some 1) : Option (Int32)) >>= fun (t1 : Int32) =>
  zb t1 >>= fun z3 => some z3
set_option maxRecDepth 100000 in
set_option maxHeartbeats 4000000 in
/-- HeadCountsModel.in -/
theorem e_170 {D : Nat} {c0 c1 c2 c3 c4 c5 c6 c7 c8 c9 c10 c11 c12 c13 : Cl} {d : Ad} {h : UH} {p1 : Int64} {p2 : Int64} {p3 : Int64} {r : Int32} (hD : 1 ≤ D) (hW : HW (mkw c0 c1 c2 c3 c4 c5 c6 c7 c8 c9 c10 c11 c12 c13) d h) (hF : F_170 p1 p2 p3 = some r) : ∃ q, EX D 170 [.long p1, .long p2, .long p3] h q ∧ q.1 = some (.int r) ∧ h = q.2 := by
  obtain ⟨D, rfl⟩ : ∃ E, D = E + 1 := ⟨D - 1, by omega⟩
  unfold F_170 at hF
  refine ex_in (kl := kl_170) (nL := 6) rfl (by decide +kernel) (Nat.le_of_ble_eq_true rfl) ?_
  obtain ⟨QQ, hQQ⟩ : ∃ QQ : UR → Prop, QQ = (fun q : UR => q.1 = some (.int r) ∧ h = q.2) := ⟨_, rfl⟩
  rw [← hQQ]
  have hQ : QQ (some (.int r), h) := by rw [hQQ]; exact ⟨rfl, rfl⟩
  clear hQQ
  show Ends (EX D) (u_at kl_170) (0, [some (.long p1), none, some (.long p2), none, some (.long p3), none], [], h) QQ
  refine en_segs [(0, .lload_n 0, []), (1, .lload_n 2, []), (2, .lcmp, [])] (by decide +kernel) (y := (3, [some (.long p1), none, some (.long p2), none, some (.long p3), none], [.int (lg_cmp p1 p2)], h)) rfl ?_
  obtain ⟨t1, hX, hK⟩ := ob_some hF
  have j2 : Ends (EX D) (u_at kl_170) (18, [some (.long p1), none, some (.long p2), none, some (.long p3), none], [.int t1], h) QQ := by
    have hF := hK
    obtain ⟨z3, hz3, hF⟩ := ob_some hF
    obtain rfl := Option.some.inj hF
    exact en_retZ (by decide +kernel : u_at kl_170 18 = some (.ireturn, [1])) hz3 (hQ)
  have hF := hX
  refine en_if_lt (by decide +kernel : u_at kl_170 3 = some (.ifCond .lt 14, [17])) (fun b4 => ?_) (fun b4 => ?_)
  · replace hF := i_pos b4 hF
    refine en_segs [(17, .iconst 0, [])] (by decide +kernel) (y := (18, [some (.long p1), none, some (.long p2), none, some (.long p3), none], [.int 0], h)) rfl ?_
    obtain rfl := Option.some.inj hF
    exact j2
  · replace hF := i_neg b4 hF
    refine en_segs [(6, .lload_n 0, []), (7, .lload 4, []), (9, .lcmp, [])] (by decide +kernel) (y := (10, [some (.long p1), none, some (.long p2), none, some (.long p3), none], [.int (lg_cmp p1 p3)], h)) rfl ?_
    refine en_if_gt (by decide +kernel : u_at kl_170 10 = some (.ifCond .gt 7, [17])) (fun b5 => ?_) (fun b5 => ?_)
    · replace hF := i_pos b5 hF
      refine en_segs [(17, .iconst 0, [])] (by decide +kernel) (y := (18, [some (.long p1), none, some (.long p2), none, some (.long p3), none], [.int 0], h)) rfl ?_
      obtain rfl := Option.some.inj hF
      exact j2
    · replace hF := i_neg b5 hF
      refine en_segs [(13, .iconst 1, []), (14, .goto 4, [18])] (by decide +kernel) (y := (18, [some (.long p1), none, some (.long p2), none, some (.long p3), none], [.int 1], h)) rfl ?_
      obtain rfl := Option.some.inj hF
      exact j2
def F_171 (p1 : Int32) (p2 : Int32) : Option Int32 :=
  ((if ((p1 >>> (p2 &&& 31)) &&& 1) = 1 then
  some 1
  else
  some 0) : Option (Int32)) >>= fun (t1 : Int32) =>
  zb t1 >>= fun z3 => some z3
set_option maxRecDepth 100000 in
set_option maxHeartbeats 4000000 in
/-- HeadCountsModel.isOf -/
theorem e_171 {D : Nat} {c0 c1 c2 c3 c4 c5 c6 c7 c8 c9 c10 c11 c12 c13 : Cl} {d : Ad} {h : UH} {p1 : Int32} {p2 : Int32} {r : Int32} (hD : 1 ≤ D) (hW : HW (mkw c0 c1 c2 c3 c4 c5 c6 c7 c8 c9 c10 c11 c12 c13) d h) (hF : F_171 p1 p2 = some r) : ∃ q, EX D 171 [.int p1, .int p2] h q ∧ q.1 = some (.int r) ∧ h = q.2 := by
  obtain ⟨D, rfl⟩ : ∃ E, D = E + 1 := ⟨D - 1, by omega⟩
  unfold F_171 at hF
  refine ex_in (kl := kl_171) (nL := 2) rfl (by decide +kernel) (Nat.le_of_ble_eq_true rfl) ?_
  obtain ⟨QQ, hQQ⟩ : ∃ QQ : UR → Prop, QQ = (fun q : UR => q.1 = some (.int r) ∧ h = q.2) := ⟨_, rfl⟩
  rw [← hQQ]
  have hQ : QQ (some (.int r), h) := by rw [hQQ]; exact ⟨rfl, rfl⟩
  clear hQQ
  show Ends (EX D) (u_at kl_171) (0, [some (.int p1), some (.int p2)], [], h) QQ
  refine en_segs [(0, .iload_n 0, []), (1, .iload_n 1, []), (2, .ishr, []), (3, .iconst 1, []), (4, .iand, []), (5, .iconst 1, [])] (by decide +kernel) (y := (6, [some (.int p1), some (.int p2)], [.int 1, .int ((p1 >>> (p2 &&& 31)) &&& 1)], h)) rfl ?_
  obtain ⟨t1, hX, hK⟩ := ob_some hF
  have j2 : Ends (EX D) (u_at kl_171) (14, [some (.int p1), some (.int p2)], [.int t1], h) QQ := by
    have hF := hK
    obtain ⟨z3, hz3, hF⟩ := ob_some hF
    obtain rfl := Option.some.inj hF
    exact en_retZ (by decide +kernel : u_at kl_171 14 = some (.ireturn, [1])) hz3 (hQ)
  have hF := hX
  refine en_ic_ne (by decide +kernel : u_at kl_171 6 = some (.if_icmp .ne 7, [13])) (fun b4 => ?_) (fun b4 => ?_)
  · replace hF := i_pos b4 hF
    refine en_segs [(9, .iconst 1, []), (10, .goto 4, [14])] (by decide +kernel) (y := (14, [some (.int p1), some (.int p2)], [.int 1], h)) rfl ?_
    obtain rfl := Option.some.inj hF
    exact j2
  · replace hF := i_neg b4 hF
    refine en_segs [(13, .iconst 0, [])] (by decide +kernel) (y := (14, [some (.int p1), some (.int p2)], [.int 0], h)) rfl ?_
    obtain rfl := Option.some.inj hF
    exact j2
def G_172 (lab : Nat) (xs : List Int32) (ys : List Int64) (zs : List Nat) : Option Int32 := match lab, xs, ys, zs with
  | 0, [x1, x2], [], [] =>
    if x2 = 0 then
    some x1
    else
    G_172 0 [x1 + 1, x2 &&& (x2 - 1)] [] []
  | _, _, _, _ => none
partial_fixpoint
set_option maxRecDepth 100000 in
set_option maxHeartbeats 4000000 in
theorem g_172 {D : Nat} (hD : 1 ≤ D + 1) {c0 c1 c2 c3 c4 c5 c6 c7 c8 c9 c10 c11 c12 c13 : Cl} {d : Ad} : ∀ (lab : Nat) (xs : List Int32) (ys : List Int64) (zs : List Nat) (r : Int32), G_172  lab xs ys zs = some r →
    (∀ (x1 : Int32) (x2 : Int32), lab = 0 → xs = [x1, x2] → ys = [] → zs = [] → ∀ h : UH, HW (mkw c0 c1 c2 c3 c4 c5 c6 c7 c8 c9 c10 c11 c12 c13) d h → ∀ QQ : UR → Prop, QQ (some (.int r), h) → Ends (EX D) (u_at kl_172) (4, [none, some (.int x1), some (.int x2)], [], h) QQ) := by
  refine G_172.partial_correctness  (motive := fun lab xs ys zs r =>
    (∀ (x1 : Int32) (x2 : Int32), lab = 0 → xs = [x1, x2] → ys = [] → zs = [] → ∀ h : UH, HW (mkw c0 c1 c2 c3 c4 c5 c6 c7 c8 c9 c10 c11 c12 c13) d h → ∀ QQ : UR → Prop, QQ (some (.int r), h) → Ends (EX D) (u_at kl_172) (4, [none, some (.int x1), some (.int x2)], [], h) QQ)) ?_
  intro G ih lab xs ys zs r hF
  · intro x1 x2 e1 e2 e3 e4 h hW QQ hQ
    subst e1 e2 e3 e4
    refine en_segs [(4, .iload_n 2, [])] (by decide +kernel) (y := (5, [none, some (.int x1), some (.int x2)], [.int x2], h)) rfl ?_
    refine en_if_eq (by decide +kernel : u_at kl_172 5 = some (.ifCond .eq 15, [20])) (fun b1 => ?_) (fun b1 => ?_)
    · replace hF := i_pos b1 hF
      refine en_segs [(20, .iload_n 1, [])] (by decide +kernel) (y := (21, [none, some (.int x1), some (.int x2)], [.int x1], h)) rfl ?_
      obtain rfl := Option.some.inj hF
      exact en_ret (by decide +kernel : u_at kl_172 21 = some (.ireturn, [0])) rfl (hQ)
    · replace hF := i_neg b1 hF
      refine en_segs [(8, .iinc 1 1, []), (11, .iload_n 2, []), (12, .iload_n 2, []), (13, .iconst 1, []), (14, .isub, []), (15, .iand, []), (16, .istore_n 2, []), (17, .goto (-13), [4])] (by decide +kernel) (y := (4, [none, some (.int (x1 + 1)), some (.int (x2 &&& (x2 - 1)))], [], h)) rfl ?_
      exact (ih _ _ _ _ _ hF) _ _ rfl rfl rfl rfl  _ hW _ hQ
def F_172 (p1 : Int32) : Option Int32 :=
  G_172 0 [0, p1] [] []
set_option maxRecDepth 100000 in
set_option maxHeartbeats 4000000 in
/-- HeadCountsModel.bits -/
theorem e_172 {D : Nat} {c0 c1 c2 c3 c4 c5 c6 c7 c8 c9 c10 c11 c12 c13 : Cl} {d : Ad} {h : UH} {p1 : Int32} {r : Int32} (hD : 1 ≤ D) (hW : HW (mkw c0 c1 c2 c3 c4 c5 c6 c7 c8 c9 c10 c11 c12 c13) d h) (hF : F_172 p1 = some r) : ∃ q, EX D 172 [.int p1] h q ∧ q.1 = some (.int r) ∧ h = q.2 := by
  obtain ⟨D, rfl⟩ : ∃ E, D = E + 1 := ⟨D - 1, by omega⟩
  unfold F_172 at hF
  refine ex_in (kl := kl_172) (nL := 3) rfl (by decide +kernel) (Nat.le_of_ble_eq_true rfl) ?_
  obtain ⟨QQ, hQQ⟩ : ∃ QQ : UR → Prop, QQ = (fun q : UR => q.1 = some (.int r) ∧ h = q.2) := ⟨_, rfl⟩
  rw [← hQQ]
  have hQ : QQ (some (.int r), h) := by rw [hQQ]; exact ⟨rfl, rfl⟩
  clear hQQ
  show Ends (EX D) (u_at kl_172) (0, [some (.int p1), none, none], [], h) QQ
  refine en_segs [(0, .iconst 0, []), (1, .istore_n 1, []), (2, .iload_n 0, []), (3, .istore_n 2, [])] (by decide +kernel) (y := (4, [some (.int p1), some (.int 0), some (.int p1)], [], h)) rfl ?_
  refine en_fg (fg_d (fg_k (fg_k fg_0))) ?_
  exact (g_172 (D := D) hD (d := d) _ _ _ _ _ hF) _ _ rfl rfl rfl rfl  _ hW _ hQ
def G_173 (a0 : Nat) (lab : Nat) (xs : List Int32) (ys : List Int64) (zs : List Nat) (c12 : Cl) : Option Cl := match lab, xs, ys, zs with
  | 0, [x1, x2], [], [] =>
    if x2 < 0 then
    some c12
    else
    ast c12 0 a0 400 (cI c12 1 a0) (vp_nar .byte ((x1 >>> (x2 &&& 31) : Int32).toInt8.toInt32)) >>= fun c12_2 =>
    some (sI c12_2 1 a0 ((cI c12_2 1 a0) + 1)) >>= fun c12_3 =>
    G_173 a0 0 [x1, x2 + (-8)] [] [] c12_3
  | _, _, _, _ => none
partial_fixpoint
set_option maxRecDepth 100000 in
set_option maxHeartbeats 4000000 in
theorem g_173 {D : Nat} (hD : 1 ≤ D + 1) {c0 c1 c2 c3 c4 c5 c6 c7 c8 c9 c10 c11 c13 : Cl} {d : Ad} {a0 : Nat} (ha0 : aK d a0 = (0, 12, 0)) : ∀ (lab : Nat) (xs : List Int32) (ys : List Int64) (zs : List Nat) (c12 : Cl) (r : Cl), G_173 a0 lab xs ys zs c12 = some r →
    (∀ (x1 : Int32) (x2 : Int32), lab = 0 → xs = [x1, x2] → ys = [] → zs = [] → ∀ h : UH, HW (mkw c0 c1 c2 c3 c4 c5 c6 c7 c8 c9 c10 c11 c12 c13) d h → ∀ QQ : UR → Prop, (∀ h' : UH, HW (mkw c0 c1 c2 c3 c4 c5 c6 c7 c8 c9 c10 c11 r c13) d h' → QQ (none, h')) → Ends (EX D) (u_at kl_173) (3, [some (.ref a0), some (.int x1), some (.int x2)], [], h) QQ) := by
  refine G_173.partial_correctness _ (motive := fun lab xs ys zs c12 r =>
    (∀ (x1 : Int32) (x2 : Int32), lab = 0 → xs = [x1, x2] → ys = [] → zs = [] → ∀ h : UH, HW (mkw c0 c1 c2 c3 c4 c5 c6 c7 c8 c9 c10 c11 c12 c13) d h → ∀ QQ : UR → Prop, (∀ h' : UH, HW (mkw c0 c1 c2 c3 c4 c5 c6 c7 c8 c9 c10 c11 r c13) d h' → QQ (none, h')) → Ends (EX D) (u_at kl_173) (3, [some (.ref a0), some (.int x1), some (.int x2)], [], h) QQ)) ?_
  intro G ih lab xs ys zs c12 r hF
  · intro x1 x2 e1 e2 e3 e4 h hW QQ hQ
    subst e1 e2 e3 e4
    refine en_segs [(3, .iload_n 2, [])] (by decide +kernel) (y := (4, [some (.ref a0), some (.int x1), some (.int x2)], [.int x2], h)) rfl ?_
    refine en_if_lt (by decide +kernel : u_at kl_173 4 = some (.ifCond .lt 32, [36])) (fun b1 => ?_) (fun b1 => ?_)
    · replace hF := i_pos b1 hF
      obtain rfl := Option.some.inj hF
      exact en_ret (by decide +kernel : u_at kl_173 36 = some (.return_, [])) rfl (hQ _ hW)
    · replace hF := i_neg b1 hF
      refine en_segs [(7, .aload_n 0, [])] (by decide +kernel) (y := (8, [some (.ref a0), some (.int x1), some (.int x2)], [.ref a0], h)) rfl ?_
      refine en_get (by decide +kernel : u_at kl_173 8 = some (.getfield 7, [12, 0])) hW ha0 (by decide) rfl ?_
      refine en_segs [(11, .aload_n 0, [])] (by decide +kernel) (y := (12, [some (.ref a0), some (.int x1), some (.int x2)], [.ref a0, .ref (aP d 12 0 a0)], h)) rfl ?_
      refine en_get (by decide +kernel : u_at kl_173 12 = some (.getfield 122, [12, 1])) hW ha0 (by decide) rfl ?_
      refine en_segs [(15, .iload_n 1, []), (16, .iload_n 2, []), (17, .ishr, []), (18, .i2b, [])] (by decide +kernel) (y := (19, [some (.ref a0), some (.int x1), some (.int x2)], [.int ((x1 >>> (x2 &&& 31) : Int32).toInt8.toInt32), .int (cI c12 1 a0), .ref (aP d 12 0 a0)], h)) rfl ?_
      obtain ⟨c12_2, hc12_2, hF⟩ := ob_some hF
      refine en_bast (by decide +kernel : u_at kl_173 19 = some (.bastore, [])) hW ha0 rfl (by decide) hc12_2 (fun h hW => ?_)
      have hW : HW (mkw c0 c1 c2 c3 c4 c5 c6 c7 c8 c9 c10 c11 c12_2 c13) d h := hW
      refine en_segs [(20, .aload_n 0, []), (21, .dup, [])] (by decide +kernel) (y := (22, [some (.ref a0), some (.int x1), some (.int x2)], [.ref a0, .ref a0], h)) rfl ?_
      refine en_get (by decide +kernel : u_at kl_173 22 = some (.getfield 122, [12, 1])) hW ha0 (by decide) rfl ?_
      refine en_segs [(25, .iconst 1, []), (26, .iadd, [])] (by decide +kernel) (y := (27, [some (.ref a0), some (.int x1), some (.int x2)], [.int ((cI c12_2 1 a0) + 1), .ref a0], h)) rfl ?_
      obtain ⟨c12_3, hc12_3, hF⟩ := ob_some hF
      refine en_putI (by decide +kernel : u_at kl_173 27 = some (.putfield 122, [12, 1, 0])) hW ha0 rfl (by decide) rfl (fun h hW => ?_)
      have hW : HW (mkw c0 c1 c2 c3 c4 c5 c6 c7 c8 c9 c10 c11 c12_3 c13) d h := by rw [← Option.some.inj hc12_3]; exact hW
      refine en_segs [(30, .iinc 2 (-8), []), (33, .goto (-30), [3])] (by decide +kernel) (y := (3, [some (.ref a0), some (.int x1), some (.int (x2 + (-8)))], [], h)) rfl ?_
      exact (ih _ _ _ _ _ _ hF) _ _ rfl rfl rfl rfl  _ hW _ hQ
def F_173 (c12 : Cl) (a0 : Nat) (p1 : Int32) : Option Cl :=
  G_173 a0 0 [p1, 24] [] [] c12
set_option maxRecDepth 100000 in
set_option maxHeartbeats 4000000 in
/-- HeadCountsModel.four -/
theorem e_173 {D : Nat} {c0 c1 c2 c3 c4 c5 c6 c7 c8 c9 c10 c11 c12 c13 : Cl} {d : Ad} {h : UH} {a0 : Nat} {p1 : Int32} {r : Cl} (hD : 1 ≤ D) (hW : HW (mkw c0 c1 c2 c3 c4 c5 c6 c7 c8 c9 c10 c11 c12 c13) d h) (ha0 : aK d a0 = (0, 12, 0)) (hF : F_173 c12 a0 p1 = some r) : ∃ q, EX D 173 [.ref a0, .int p1] h q ∧ q.1 = none ∧ HW (mkw c0 c1 c2 c3 c4 c5 c6 c7 c8 c9 c10 c11 r c13) d q.2 := by
  obtain ⟨D, rfl⟩ : ∃ E, D = E + 1 := ⟨D - 1, by omega⟩
  unfold F_173 at hF
  refine ex_in (kl := kl_173) (nL := 3) rfl (by decide +kernel) (Nat.le_of_ble_eq_true rfl) ?_
  obtain ⟨QQ, hQQ⟩ : ∃ QQ : UR → Prop, QQ = (fun q : UR => q.1 = none ∧ HW (mkw c0 c1 c2 c3 c4 c5 c6 c7 c8 c9 c10 c11 r c13) d q.2) := ⟨_, rfl⟩
  rw [← hQQ]
  have hQ : ∀ h' : UH, HW (mkw c0 c1 c2 c3 c4 c5 c6 c7 c8 c9 c10 c11 r c13) d h' → QQ (none, h') := fun h' p => by rw [hQQ]; exact ⟨rfl, p⟩
  clear hQQ
  show Ends (EX D) (u_at kl_173) (0, [some (.ref a0), some (.int p1), none], [], h) QQ
  refine en_segs [(0, .bipush 24, []), (2, .istore_n 2, [])] (by decide +kernel) (y := (3, [some (.ref a0), some (.int p1), some (.int 24)], [], h)) rfl ?_
  exact (g_173 (D := D) hD (d := d) ha0 _ _ _ _ _ _ hF) _ _ rfl rfl rfl rfl  _ hW _ hQ
def F_174 (c12 : Cl) (a0 : Nat) (p1 : Int32) (p2 : Int32) (p3 : Int32) (p4 : Int32) (p5 : Int32) : Option (Int32 × Cl) :=
  if ((cI c12 1 a0) + 20) ≤ 400 then
  F_173 c12 a0 p1 >>= fun r2 =>
  F_173 r2 a0 p2 >>= fun r3 =>
  F_173 r3 a0 p3 >>= fun r4 =>
  F_173 r4 a0 p4 >>= fun r5 =>
  F_173 r5 a0 p5 >>= fun r6 =>
  some (cI r6 1 a0, r6)
  else
  some ((-1), c12)
set_option maxRecDepth 100000 in
set_option maxHeartbeats 4000000 in
/-- HeadCountsModel.feed -/
theorem e_174 {D : Nat} {c0 c1 c2 c3 c4 c5 c6 c7 c8 c9 c10 c11 c12 c13 : Cl} {d : Ad} {h : UH} {a0 : Nat} {p1 : Int32} {p2 : Int32} {p3 : Int32} {p4 : Int32} {p5 : Int32} {r : (Int32 × Cl)} (hD : 2 ≤ D) (hW : HW (mkw c0 c1 c2 c3 c4 c5 c6 c7 c8 c9 c10 c11 c12 c13) d h) (ha0 : aK d a0 = (0, 12, 0)) (hF : F_174 c12 a0 p1 p2 p3 p4 p5 = some r) : ∃ q, EX D 174 [.ref a0, .int p1, .int p2, .int p3, .int p4, .int p5] h q ∧ q.1 = some (.int r.1) ∧ HW (mkw c0 c1 c2 c3 c4 c5 c6 c7 c8 c9 c10 c11 r.2 c13) d q.2 := by
  obtain ⟨D, rfl⟩ : ∃ E, D = E + 1 := ⟨D - 1, by omega⟩
  unfold F_174 at hF
  refine ex_in (kl := kl_174) (nL := 6) rfl (by decide +kernel) (Nat.le_of_ble_eq_true rfl) ?_
  obtain ⟨QQ, hQQ⟩ : ∃ QQ : UR → Prop, QQ = (fun q : UR => q.1 = some (.int r.1) ∧ HW (mkw c0 c1 c2 c3 c4 c5 c6 c7 c8 c9 c10 c11 r.2 c13) d q.2) := ⟨_, rfl⟩
  rw [← hQQ]
  have hQ : ∀ h' : UH, HW (mkw c0 c1 c2 c3 c4 c5 c6 c7 c8 c9 c10 c11 r.2 c13) d h' → QQ (some (.int r.1), h') := fun h' p => by rw [hQQ]; exact ⟨rfl, p⟩
  clear hQQ
  show Ends (EX D) (u_at kl_174) (0, [some (.ref a0), some (.int p1), some (.int p2), some (.int p3), some (.int p4), some (.int p5)], [], h) QQ
  refine en_segs [(0, .aload_n 0, [])] (by decide +kernel) (y := (1, [some (.ref a0), some (.int p1), some (.int p2), some (.int p3), some (.int p4), some (.int p5)], [.ref a0], h)) rfl ?_
  refine en_get (by decide +kernel : u_at kl_174 1 = some (.getfield 122, [12, 1])) hW ha0 (by decide) rfl ?_
  refine en_segs [(4, .bipush 20, []), (6, .iadd, []), (7, .sipush 400, [])] (by decide +kernel) (y := (10, [some (.ref a0), some (.int p1), some (.int p2), some (.int p3), some (.int p4), some (.int p5)], [.int 400, .int ((cI c12 1 a0) + 20)], h)) rfl ?_
  refine en_ic_le (by decide +kernel : u_at kl_174 10 = some (.if_icmp .le 5, [15])) (fun b1 => ?_) (fun b1 => ?_)
  · replace hF := i_pos b1 hF
    refine en_segs [(15, .aload_n 0, []), (16, .iload_n 1, [])] (by decide +kernel) (y := (17, [some (.ref a0), some (.int p1), some (.int p2), some (.int p3), some (.int p4), some (.int p5)], [.int p1, .ref a0], h)) rfl ?_
    obtain ⟨r2, hr2, hF⟩ := ob_some hF
    refine en_vv (r := []) (by decide +kernel : u_at kl_174 17 = some (.invokevirtual 126, [173, 1, 12])) hW ha0 rfl rfl (Nat.le_of_ble_eq_true rfl) (e_173 (D := D) (by omega) hW ha0 hr2) (fun h hW => ?_)
    have hW : HW (mkw c0 c1 c2 c3 c4 c5 c6 c7 c8 c9 c10 c11 r2 c13) d h := hW
    refine en_segs [(20, .aload_n 0, []), (21, .iload_n 2, [])] (by decide +kernel) (y := (22, [some (.ref a0), some (.int p1), some (.int p2), some (.int p3), some (.int p4), some (.int p5)], [.int p2, .ref a0], h)) rfl ?_
    obtain ⟨r3, hr3, hF⟩ := ob_some hF
    refine en_vv (r := []) (by decide +kernel : u_at kl_174 22 = some (.invokevirtual 126, [173, 1, 12])) hW ha0 rfl rfl (Nat.le_of_ble_eq_true rfl) (e_173 (D := D) (by omega) hW ha0 hr3) (fun h hW => ?_)
    have hW : HW (mkw c0 c1 c2 c3 c4 c5 c6 c7 c8 c9 c10 c11 r3 c13) d h := hW
    refine en_segs [(25, .aload_n 0, []), (26, .iload_n 3, [])] (by decide +kernel) (y := (27, [some (.ref a0), some (.int p1), some (.int p2), some (.int p3), some (.int p4), some (.int p5)], [.int p3, .ref a0], h)) rfl ?_
    obtain ⟨r4, hr4, hF⟩ := ob_some hF
    refine en_vv (r := []) (by decide +kernel : u_at kl_174 27 = some (.invokevirtual 126, [173, 1, 12])) hW ha0 rfl rfl (Nat.le_of_ble_eq_true rfl) (e_173 (D := D) (by omega) hW ha0 hr4) (fun h hW => ?_)
    have hW : HW (mkw c0 c1 c2 c3 c4 c5 c6 c7 c8 c9 c10 c11 r4 c13) d h := hW
    refine en_segs [(30, .aload_n 0, []), (31, .iload 4, [])] (by decide +kernel) (y := (33, [some (.ref a0), some (.int p1), some (.int p2), some (.int p3), some (.int p4), some (.int p5)], [.int p4, .ref a0], h)) rfl ?_
    obtain ⟨r5, hr5, hF⟩ := ob_some hF
    refine en_vv (r := []) (by decide +kernel : u_at kl_174 33 = some (.invokevirtual 126, [173, 1, 12])) hW ha0 rfl rfl (Nat.le_of_ble_eq_true rfl) (e_173 (D := D) (by omega) hW ha0 hr5) (fun h hW => ?_)
    have hW : HW (mkw c0 c1 c2 c3 c4 c5 c6 c7 c8 c9 c10 c11 r5 c13) d h := hW
    refine en_segs [(36, .aload_n 0, []), (37, .iload 5, [])] (by decide +kernel) (y := (39, [some (.ref a0), some (.int p1), some (.int p2), some (.int p3), some (.int p4), some (.int p5)], [.int p5, .ref a0], h)) rfl ?_
    obtain ⟨r6, hr6, hF⟩ := ob_some hF
    refine en_vv (r := []) (by decide +kernel : u_at kl_174 39 = some (.invokevirtual 126, [173, 1, 12])) hW ha0 rfl rfl (Nat.le_of_ble_eq_true rfl) (e_173 (D := D) (by omega) hW ha0 hr6) (fun h hW => ?_)
    have hW : HW (mkw c0 c1 c2 c3 c4 c5 c6 c7 c8 c9 c10 c11 r6 c13) d h := hW
    refine en_segs [(42, .aload_n 0, [])] (by decide +kernel) (y := (43, [some (.ref a0), some (.int p1), some (.int p2), some (.int p3), some (.int p4), some (.int p5)], [.ref a0], h)) rfl ?_
    refine en_get (by decide +kernel : u_at kl_174 43 = some (.getfield 122, [12, 1])) hW ha0 (by decide) rfl ?_
    obtain rfl := Option.some.inj hF
    exact en_ret (by decide +kernel : u_at kl_174 46 = some (.ireturn, [0])) rfl (hQ _ hW)
  · replace hF := i_neg b1 hF
    refine en_segs [(13, .iconst (-1), [])] (by decide +kernel) (y := (14, [some (.ref a0), some (.int p1), some (.int p2), some (.int p3), some (.int p4), some (.int p5)], [.int (-1)], h)) rfl ?_
    obtain rfl := Option.some.inj hF
    exact en_ret (by decide +kernel : u_at kl_174 14 = some (.ireturn, [0])) rfl (hQ _ hW)
def F_175 (c12 : Cl) (a0 : Nat) (p1 : Int32) : Option (Int32 × Cl) :=
  if p1 < 0 then
  some ((-1), c12)
  else
  if p1 ≤ (cI c12 1 a0) then
  some (sI c12 1 a0 p1) >>= fun c12_3 =>
  some (p1, c12_3)
  else
  some ((-1), c12)
set_option maxRecDepth 100000 in
set_option maxHeartbeats 4000000 in
/-- HeadCountsModel.end -/
theorem e_175 {D : Nat} {c0 c1 c2 c3 c4 c5 c6 c7 c8 c9 c10 c11 c12 c13 : Cl} {d : Ad} {h : UH} {a0 : Nat} {p1 : Int32} {r : (Int32 × Cl)} (hD : 1 ≤ D) (hW : HW (mkw c0 c1 c2 c3 c4 c5 c6 c7 c8 c9 c10 c11 c12 c13) d h) (ha0 : aK d a0 = (0, 12, 0)) (hF : F_175 c12 a0 p1 = some r) : ∃ q, EX D 175 [.ref a0, .int p1] h q ∧ q.1 = some (.int r.1) ∧ HW (mkw c0 c1 c2 c3 c4 c5 c6 c7 c8 c9 c10 c11 r.2 c13) d q.2 := by
  obtain ⟨D, rfl⟩ : ∃ E, D = E + 1 := ⟨D - 1, by omega⟩
  unfold F_175 at hF
  refine ex_in (kl := kl_175) (nL := 2) rfl (by decide +kernel) (Nat.le_of_ble_eq_true rfl) ?_
  obtain ⟨QQ, hQQ⟩ : ∃ QQ : UR → Prop, QQ = (fun q : UR => q.1 = some (.int r.1) ∧ HW (mkw c0 c1 c2 c3 c4 c5 c6 c7 c8 c9 c10 c11 r.2 c13) d q.2) := ⟨_, rfl⟩
  rw [← hQQ]
  have hQ : ∀ h' : UH, HW (mkw c0 c1 c2 c3 c4 c5 c6 c7 c8 c9 c10 c11 r.2 c13) d h' → QQ (some (.int r.1), h') := fun h' p => by rw [hQQ]; exact ⟨rfl, p⟩
  clear hQQ
  show Ends (EX D) (u_at kl_175) (0, [some (.ref a0), some (.int p1)], [], h) QQ
  refine en_segs [(0, .iload_n 1, [])] (by decide +kernel) (y := (1, [some (.ref a0), some (.int p1)], [.int p1], h)) rfl ?_
  refine en_if_lt (by decide +kernel : u_at kl_175 1 = some (.ifCond .lt 11, [12])) (fun b1 => ?_) (fun b1 => ?_)
  · replace hF := i_pos b1 hF
    refine en_segs [(12, .iconst (-1), [])] (by decide +kernel) (y := (13, [some (.ref a0), some (.int p1)], [.int (-1)], h)) rfl ?_
    obtain rfl := Option.some.inj hF
    exact en_ret (by decide +kernel : u_at kl_175 13 = some (.ireturn, [0])) rfl (hQ _ hW)
  · replace hF := i_neg b1 hF
    refine en_segs [(4, .iload_n 1, []), (5, .aload_n 0, [])] (by decide +kernel) (y := (6, [some (.ref a0), some (.int p1)], [.ref a0, .int p1], h)) rfl ?_
    refine en_get (by decide +kernel : u_at kl_175 6 = some (.getfield 122, [12, 1])) hW ha0 (by decide) rfl ?_
    refine en_ic_le (by decide +kernel : u_at kl_175 9 = some (.if_icmp .le 5, [14])) (fun b2 => ?_) (fun b2 => ?_)
    · replace hF := i_pos b2 hF
      refine en_segs [(14, .aload_n 0, []), (15, .iload_n 1, [])] (by decide +kernel) (y := (16, [some (.ref a0), some (.int p1)], [.int p1, .ref a0], h)) rfl ?_
      obtain ⟨c12_3, hc12_3, hF⟩ := ob_some hF
      refine en_putI (by decide +kernel : u_at kl_175 16 = some (.putfield 122, [12, 1, 0])) hW ha0 rfl (by decide) rfl (fun h hW => ?_)
      have hW : HW (mkw c0 c1 c2 c3 c4 c5 c6 c7 c8 c9 c10 c11 c12_3 c13) d h := by rw [← Option.some.inj hc12_3]; exact hW
      refine en_segs [(19, .iload_n 1, [])] (by decide +kernel) (y := (20, [some (.ref a0), some (.int p1)], [.int p1], h)) rfl ?_
      obtain rfl := Option.some.inj hF
      exact en_ret (by decide +kernel : u_at kl_175 20 = some (.ireturn, [0])) rfl (hQ _ hW)
    · replace hF := i_neg b2 hF
      refine en_segs [(12, .iconst (-1), [])] (by decide +kernel) (y := (13, [some (.ref a0), some (.int p1)], [.int (-1)], h)) rfl ?_
      obtain rfl := Option.some.inj hF
      exact en_ret (by decide +kernel : u_at kl_175 13 = some (.ireturn, [0])) rfl (hQ _ hW)
def F_176 (c12 : Cl) (a0 : Nat) (p1 : Int32) (p2 : Int32) : Option (Int32 × Cl) :=
  ((if (cI c12 9 a0) = 0 then
  some (sI c12 9 a0 ((1 + (8 * p2)) + p1)) >>= fun c12_4 =>
  some c12_4
  else
  some c12) : Option (Cl)) >>= fun (t1 : Cl) =>
  some (0, t1)
set_option maxRecDepth 100000 in
set_option maxHeartbeats 4000000 in
/-- HeadCountsModel.fails -/
theorem e_176 {D : Nat} {c0 c1 c2 c3 c4 c5 c6 c7 c8 c9 c10 c11 c12 c13 : Cl} {d : Ad} {h : UH} {a0 : Nat} {p1 : Int32} {p2 : Int32} {r : (Int32 × Cl)} (hD : 1 ≤ D) (hW : HW (mkw c0 c1 c2 c3 c4 c5 c6 c7 c8 c9 c10 c11 c12 c13) d h) (ha0 : aK d a0 = (0, 12, 0)) (hF : F_176 c12 a0 p1 p2 = some r) : ∃ q, EX D 176 [.ref a0, .int p1, .int p2] h q ∧ q.1 = some (.int r.1) ∧ HW (mkw c0 c1 c2 c3 c4 c5 c6 c7 c8 c9 c10 c11 r.2 c13) d q.2 := by
  obtain ⟨D, rfl⟩ : ∃ E, D = E + 1 := ⟨D - 1, by omega⟩
  unfold F_176 at hF
  refine ex_in (kl := kl_176) (nL := 3) rfl (by decide +kernel) (Nat.le_of_ble_eq_true rfl) ?_
  obtain ⟨QQ, hQQ⟩ : ∃ QQ : UR → Prop, QQ = (fun q : UR => q.1 = some (.int r.1) ∧ HW (mkw c0 c1 c2 c3 c4 c5 c6 c7 c8 c9 c10 c11 r.2 c13) d q.2) := ⟨_, rfl⟩
  rw [← hQQ]
  have hQ : ∀ h' : UH, HW (mkw c0 c1 c2 c3 c4 c5 c6 c7 c8 c9 c10 c11 r.2 c13) d h' → QQ (some (.int r.1), h') := fun h' p => by rw [hQQ]; exact ⟨rfl, p⟩
  clear hQQ
  show Ends (EX D) (u_at kl_176) (0, [some (.ref a0), some (.int p1), some (.int p2)], [], h) QQ
  refine en_segs [(0, .aload_n 0, [])] (by decide +kernel) (y := (1, [some (.ref a0), some (.int p1), some (.int p2)], [.ref a0], h)) rfl ?_
  refine en_get (by decide +kernel : u_at kl_176 1 = some (.getfield 130, [12, 9])) hW ha0 (by decide) rfl ?_
  obtain ⟨t1, hX, hK⟩ := ob_some hF
  have j2 : ∀ h : UH, HW (mkw c0 c1 c2 c3 c4 c5 c6 c7 c8 c9 c10 c11 t1 c13) d h → Ends (EX D) (u_at kl_176) (19, [some (.ref a0), some (.int p1), some (.int p2)], [], h) QQ := by
    intro h hW
    have hF := hK
    refine en_segs [(19, .iconst 0, [])] (by decide +kernel) (y := (20, [some (.ref a0), some (.int p1), some (.int p2)], [.int 0], h)) rfl ?_
    obtain rfl := Option.some.inj hF
    exact en_ret (by decide +kernel : u_at kl_176 20 = some (.ireturn, [1])) rfl (hQ _ hW)
  have hF := hX
  refine en_if_ne (by decide +kernel : u_at kl_176 4 = some (.ifCond .ne 15, [19])) (fun b3 => ?_) (fun b3 => ?_)
  · replace hF := i_pos b3 hF
    refine en_segs [(7, .aload_n 0, []), (8, .iconst 1, []), (9, .bipush 8, []), (11, .iload_n 2, []), (12, .imul, []), (13, .iadd, []), (14, .iload_n 1, []), (15, .iadd, [])] (by decide +kernel) (y := (16, [some (.ref a0), some (.int p1), some (.int p2)], [.int ((1 + (8 * p2)) + p1), .ref a0], h)) rfl ?_
    obtain ⟨c12_4, hc12_4, hF⟩ := ob_some hF
    refine en_putI (by decide +kernel : u_at kl_176 16 = some (.putfield 130, [12, 9, 0])) hW ha0 rfl (by decide) rfl (fun h hW => ?_)
    have hW : HW (mkw c0 c1 c2 c3 c4 c5 c6 c7 c8 c9 c10 c11 c12_4 c13) d h := by rw [← Option.some.inj hc12_4]; exact hW
    obtain rfl := Option.some.inj hF
    exact j2 _ hW
  · replace hF := i_neg b3 hF
    obtain rfl := Option.some.inj hF
    exact j2 _ hW
def G_177 (a0 : Nat) (lab : Nat) (xs : List Int32) (ys : List Int64) (zs : List Nat) (c12 : Cl) : Option (Int32 × Cl) := match lab, xs, ys, zs with
  | 0, [], [], [] =>
    if (cI c12 1 a0) ≤ (cI c12 8 a0) then
    G_177 a0 1 [] [] [] c12
    else
    ald (cA c12 0 a0) 400 (cI c12 8 a0) >>= fun v2 =>
    if v2 = 32 then
    some (sI c12 8 a0 ((cI c12 8 a0) + 1)) >>= fun c12_4 =>
    G_177 a0 0 [] [] [] c12_4
    else
    G_177 a0 1 [] [] [] c12
  | 1, [], [], [] =>
    ((if (cI c12 1 a0) ≤ (cI c12 8 a0) then
    some (-1)
    else
    ald (cA c12 0 a0) 400 (cI c12 8 a0) >>= fun v8 =>
    some (v8 &&& 255)) : Option (Int32)) >>= fun (t5 : Int32) =>
    some (t5, c12)
  | _, _, _, _ => none
partial_fixpoint
set_option maxRecDepth 100000 in
set_option maxHeartbeats 4000000 in
theorem g_177 {D : Nat} (hD : 1 ≤ D + 1) {c0 c1 c2 c3 c4 c5 c6 c7 c8 c9 c10 c11 c13 : Cl} {d : Ad} {a0 : Nat} (ha0 : aK d a0 = (0, 12, 0)) : ∀ (lab : Nat) (xs : List Int32) (ys : List Int64) (zs : List Nat) (c12 : Cl) (r : (Int32 × Cl)), G_177 a0 lab xs ys zs c12 = some r →
    (∀ (_ : Unit), lab = 0 → xs = [] → ys = [] → zs = [] → ∀ h : UH, HW (mkw c0 c1 c2 c3 c4 c5 c6 c7 c8 c9 c10 c11 c12 c13) d h → ∀ QQ : UR → Prop, (∀ h' : UH, HW (mkw c0 c1 c2 c3 c4 c5 c6 c7 c8 c9 c10 c11 r.2 c13) d h' → QQ (some (.int r.1), h')) → Ends (EX D) (u_at kl_177) (0, [some (.ref a0)], [], h) QQ) ∧
    (∀ (_ : Unit), lab = 1 → xs = [] → ys = [] → zs = [] → ∀ h : UH, HW (mkw c0 c1 c2 c3 c4 c5 c6 c7 c8 c9 c10 c11 c12 c13) d h → ∀ QQ : UR → Prop, (∀ h' : UH, HW (mkw c0 c1 c2 c3 c4 c5 c6 c7 c8 c9 c10 c11 r.2 c13) d h' → QQ (some (.int r.1), h')) → Ends (EX D) (u_at kl_177) (38, [some (.ref a0)], [], h) QQ) := by
  refine G_177.partial_correctness _ (motive := fun lab xs ys zs c12 r =>
    (∀ (_ : Unit), lab = 0 → xs = [] → ys = [] → zs = [] → ∀ h : UH, HW (mkw c0 c1 c2 c3 c4 c5 c6 c7 c8 c9 c10 c11 c12 c13) d h → ∀ QQ : UR → Prop, (∀ h' : UH, HW (mkw c0 c1 c2 c3 c4 c5 c6 c7 c8 c9 c10 c11 r.2 c13) d h' → QQ (some (.int r.1), h')) → Ends (EX D) (u_at kl_177) (0, [some (.ref a0)], [], h) QQ) ∧
    (∀ (_ : Unit), lab = 1 → xs = [] → ys = [] → zs = [] → ∀ h : UH, HW (mkw c0 c1 c2 c3 c4 c5 c6 c7 c8 c9 c10 c11 c12 c13) d h → ∀ QQ : UR → Prop, (∀ h' : UH, HW (mkw c0 c1 c2 c3 c4 c5 c6 c7 c8 c9 c10 c11 r.2 c13) d h' → QQ (some (.int r.1), h')) → Ends (EX D) (u_at kl_177) (38, [some (.ref a0)], [], h) QQ)) ?_
  intro G ih lab xs ys zs c12 r hF
  refine ⟨?_, ?_⟩
  · intro _ e1 e2 e3 e4 h hW QQ hQ
    subst e1 e2 e3 e4
    refine en_segs [(0, .aload_n 0, [])] (by decide +kernel) (y := (1, [some (.ref a0)], [.ref a0], h)) rfl ?_
    refine en_get (by decide +kernel : u_at kl_177 1 = some (.getfield 133, [12, 8])) hW ha0 (by decide) rfl ?_
    refine en_segs [(4, .aload_n 0, [])] (by decide +kernel) (y := (5, [some (.ref a0)], [.ref a0, .int (cI c12 8 a0)], h)) rfl ?_
    refine en_get (by decide +kernel : u_at kl_177 5 = some (.getfield 122, [12, 1])) hW ha0 (by decide) rfl ?_
    refine en_ic_ge (by decide +kernel : u_at kl_177 8 = some (.if_icmp .ge 30, [38])) (fun b1 => ?_) (fun b1 => ?_)
    · replace hF := i_pos b1 hF
      exact (ih _ _ _ _ _ _ hF).2 () rfl rfl rfl rfl  _ hW _ hQ
    · replace hF := i_neg b1 hF
      refine en_segs [(11, .aload_n 0, [])] (by decide +kernel) (y := (12, [some (.ref a0)], [.ref a0], h)) rfl ?_
      refine en_get (by decide +kernel : u_at kl_177 12 = some (.getfield 7, [12, 0])) hW ha0 (by decide) rfl ?_
      refine en_segs [(15, .aload_n 0, [])] (by decide +kernel) (y := (16, [some (.ref a0)], [.ref a0, .ref (aP d 12 0 a0)], h)) rfl ?_
      refine en_get (by decide +kernel : u_at kl_177 16 = some (.getfield 133, [12, 8])) hW ha0 (by decide) rfl ?_
      obtain ⟨v2, hv2, hF⟩ := ob_some hF
      refine en_bald (by decide +kernel : u_at kl_177 19 = some (.baload, [])) hW ha0 rfl (by decide) hv2 ?_
      refine en_segs [(20, .bipush 32, [])] (by decide +kernel) (y := (22, [some (.ref a0)], [.int 32, .int v2], h)) rfl ?_
      refine en_ic_ne (by decide +kernel : u_at kl_177 22 = some (.if_icmp .ne 16, [38])) (fun b3 => ?_) (fun b3 => ?_)
      · replace hF := i_pos b3 hF
        refine en_segs [(25, .aload_n 0, []), (26, .dup, [])] (by decide +kernel) (y := (27, [some (.ref a0)], [.ref a0, .ref a0], h)) rfl ?_
        refine en_get (by decide +kernel : u_at kl_177 27 = some (.getfield 133, [12, 8])) hW ha0 (by decide) rfl ?_
        refine en_segs [(30, .iconst 1, []), (31, .iadd, [])] (by decide +kernel) (y := (32, [some (.ref a0)], [.int ((cI c12 8 a0) + 1), .ref a0], h)) rfl ?_
        obtain ⟨c12_4, hc12_4, hF⟩ := ob_some hF
        refine en_putI (by decide +kernel : u_at kl_177 32 = some (.putfield 133, [12, 8, 0])) hW ha0 rfl (by decide) rfl (fun h hW => ?_)
        have hW : HW (mkw c0 c1 c2 c3 c4 c5 c6 c7 c8 c9 c10 c11 c12_4 c13) d h := by rw [← Option.some.inj hc12_4]; exact hW
        refine en_segs [(35, .goto (-35), [0])] (by decide +kernel) (y := (0, [some (.ref a0)], [], h)) rfl ?_
        exact (ih _ _ _ _ _ _ hF).1 () rfl rfl rfl rfl  _ hW _ hQ
      · replace hF := i_neg b3 hF
        exact (ih _ _ _ _ _ _ hF).2 () rfl rfl rfl rfl  _ hW _ hQ
  · intro _ e1 e2 e3 e4 h hW QQ hQ
    subst e1 e2 e3 e4
    refine en_segs [(38, .aload_n 0, [])] (by decide +kernel) (y := (39, [some (.ref a0)], [.ref a0], h)) rfl ?_
    refine en_get (by decide +kernel : u_at kl_177 39 = some (.getfield 133, [12, 8])) hW ha0 (by decide) rfl ?_
    refine en_segs [(42, .aload_n 0, [])] (by decide +kernel) (y := (43, [some (.ref a0)], [.ref a0, .int (cI c12 8 a0)], h)) rfl ?_
    refine en_get (by decide +kernel : u_at kl_177 43 = some (.getfield 122, [12, 1])) hW ha0 (by decide) rfl ?_
    obtain ⟨t5, hX, hK⟩ := ob_some hF
    have j6 : ∀ h : UH, HW (mkw c0 c1 c2 c3 c4 c5 c6 c7 c8 c9 c10 c11 c12 c13) d h → Ends (EX D) (u_at kl_177) (66, [some (.ref a0)], [.int t5], h) QQ := by
      intro h hW
      have hF := hK
      obtain rfl := Option.some.inj hF
      exact en_ret (by decide +kernel : u_at kl_177 66 = some (.ireturn, [0])) rfl (hQ _ hW)
    have hF := hX
    refine en_ic_ge (by decide +kernel : u_at kl_177 46 = some (.if_icmp .ge 19, [65])) (fun b7 => ?_) (fun b7 => ?_)
    · replace hF := i_pos b7 hF
      refine en_segs [(65, .iconst (-1), [])] (by decide +kernel) (y := (66, [some (.ref a0)], [.int (-1)], h)) rfl ?_
      obtain rfl := Option.some.inj hF
      exact j6 _ hW
    · replace hF := i_neg b7 hF
      refine en_segs [(49, .aload_n 0, [])] (by decide +kernel) (y := (50, [some (.ref a0)], [.ref a0], h)) rfl ?_
      refine en_get (by decide +kernel : u_at kl_177 50 = some (.getfield 7, [12, 0])) hW ha0 (by decide) rfl ?_
      refine en_segs [(53, .aload_n 0, [])] (by decide +kernel) (y := (54, [some (.ref a0)], [.ref a0, .ref (aP d 12 0 a0)], h)) rfl ?_
      refine en_get (by decide +kernel : u_at kl_177 54 = some (.getfield 133, [12, 8])) hW ha0 (by decide) rfl ?_
      obtain ⟨v8, hv8, hF⟩ := ob_some hF
      refine en_bald (by decide +kernel : u_at kl_177 57 = some (.baload, [])) hW ha0 rfl (by decide) hv8 ?_
      refine en_segs [(58, .sipush 255, []), (61, .iand, []), (62, .goto 4, [66])] (by decide +kernel) (y := (66, [some (.ref a0)], [.int (v8 &&& 255)], h)) rfl ?_
      obtain rfl := Option.some.inj hF
      exact j6 _ hW
def F_177 (c12 : Cl) (a0 : Nat) : Option (Int32 × Cl) :=
  G_177 a0 0 [] [] [] c12
set_option maxRecDepth 100000 in
set_option maxHeartbeats 4000000 in
/-- HeadCountsModel.see -/
theorem e_177 {D : Nat} {c0 c1 c2 c3 c4 c5 c6 c7 c8 c9 c10 c11 c12 c13 : Cl} {d : Ad} {h : UH} {a0 : Nat} {r : (Int32 × Cl)} (hD : 1 ≤ D) (hW : HW (mkw c0 c1 c2 c3 c4 c5 c6 c7 c8 c9 c10 c11 c12 c13) d h) (ha0 : aK d a0 = (0, 12, 0)) (hF : F_177 c12 a0 = some r) : ∃ q, EX D 177 [.ref a0] h q ∧ q.1 = some (.int r.1) ∧ HW (mkw c0 c1 c2 c3 c4 c5 c6 c7 c8 c9 c10 c11 r.2 c13) d q.2 := by
  obtain ⟨D, rfl⟩ : ∃ E, D = E + 1 := ⟨D - 1, by omega⟩
  unfold F_177 at hF
  refine ex_in (kl := kl_177) (nL := 1) rfl (by decide +kernel) (Nat.le_of_ble_eq_true rfl) ?_
  obtain ⟨QQ, hQQ⟩ : ∃ QQ : UR → Prop, QQ = (fun q : UR => q.1 = some (.int r.1) ∧ HW (mkw c0 c1 c2 c3 c4 c5 c6 c7 c8 c9 c10 c11 r.2 c13) d q.2) := ⟨_, rfl⟩
  rw [← hQQ]
  have hQ : ∀ h' : UH, HW (mkw c0 c1 c2 c3 c4 c5 c6 c7 c8 c9 c10 c11 r.2 c13) d h' → QQ (some (.int r.1), h') := fun h' p => by rw [hQQ]; exact ⟨rfl, p⟩
  clear hQQ
  show Ends (EX D) (u_at kl_177) (0, [some (.ref a0)], [], h) QQ
  exact (g_177 (D := D) hD (d := d) ha0 _ _ _ _ _ _ hF).1 () rfl rfl rfl rfl  _ hW _ hQ
def F_178 (c12 : Cl) (a0 : Nat) (p1 : Int32) : Option Int32 :=
  ((if (cI c12 1 a0) ≤ p1 then
  some 0
  else
  ald (cA c12 0 a0) 400 p1 >>= fun v5 =>
  if v5 < 48 then
  some 0
  else
  ald (cA c12 0 a0) 400 p1 >>= fun v7 =>
  if 57 < v7 then
  some 0
  else
  some 1) : Option (Int32)) >>= fun (t1 : Int32) =>
  zb t1 >>= fun z3 => some z3
set_option maxRecDepth 100000 in
set_option maxHeartbeats 4000000 in
/-- HeadCountsModel.isDigit -/
theorem e_178 {D : Nat} {c0 c1 c2 c3 c4 c5 c6 c7 c8 c9 c10 c11 c12 c13 : Cl} {d : Ad} {h : UH} {a0 : Nat} {p1 : Int32} {r : Int32} (hD : 1 ≤ D) (hW : HW (mkw c0 c1 c2 c3 c4 c5 c6 c7 c8 c9 c10 c11 c12 c13) d h) (ha0 : aK d a0 = (0, 12, 0)) (hF : F_178 c12 a0 p1 = some r) : ∃ q, EX D 178 [.ref a0, .int p1] h q ∧ q.1 = some (.int r) ∧ h = q.2 := by
  obtain ⟨D, rfl⟩ : ∃ E, D = E + 1 := ⟨D - 1, by omega⟩
  unfold F_178 at hF
  refine ex_in (kl := kl_178) (nL := 2) rfl (by decide +kernel) (Nat.le_of_ble_eq_true rfl) ?_
  obtain ⟨QQ, hQQ⟩ : ∃ QQ : UR → Prop, QQ = (fun q : UR => q.1 = some (.int r) ∧ h = q.2) := ⟨_, rfl⟩
  rw [← hQQ]
  have hQ : QQ (some (.int r), h) := by rw [hQQ]; exact ⟨rfl, rfl⟩
  clear hQQ
  show Ends (EX D) (u_at kl_178) (0, [some (.ref a0), some (.int p1)], [], h) QQ
  refine en_segs [(0, .iload_n 1, []), (1, .aload_n 0, [])] (by decide +kernel) (y := (2, [some (.ref a0), some (.int p1)], [.ref a0, .int p1], h)) rfl ?_
  refine en_get (by decide +kernel : u_at kl_178 2 = some (.getfield 122, [12, 1])) hW ha0 (by decide) rfl ?_
  obtain ⟨t1, hX, hK⟩ := ob_some hF
  have j2 : Ends (EX D) (u_at kl_178) (35, [some (.ref a0), some (.int p1)], [.int t1], h) QQ := by
    have hF := hK
    obtain ⟨z3, hz3, hF⟩ := ob_some hF
    obtain rfl := Option.some.inj hF
    exact en_retZ (by decide +kernel : u_at kl_178 35 = some (.ireturn, [1])) hz3 (hQ)
  have hF := hX
  refine en_ic_ge (by decide +kernel : u_at kl_178 5 = some (.if_icmp .ge 29, [34])) (fun b4 => ?_) (fun b4 => ?_)
  · replace hF := i_pos b4 hF
    refine en_segs [(34, .iconst 0, [])] (by decide +kernel) (y := (35, [some (.ref a0), some (.int p1)], [.int 0], h)) rfl ?_
    obtain rfl := Option.some.inj hF
    exact j2
  · replace hF := i_neg b4 hF
    refine en_segs [(8, .aload_n 0, [])] (by decide +kernel) (y := (9, [some (.ref a0), some (.int p1)], [.ref a0], h)) rfl ?_
    refine en_get (by decide +kernel : u_at kl_178 9 = some (.getfield 7, [12, 0])) hW ha0 (by decide) rfl ?_
    refine en_segs [(12, .iload_n 1, [])] (by decide +kernel) (y := (13, [some (.ref a0), some (.int p1)], [.int p1, .ref (aP d 12 0 a0)], h)) rfl ?_
    obtain ⟨v5, hv5, hF⟩ := ob_some hF
    refine en_bald (by decide +kernel : u_at kl_178 13 = some (.baload, [])) hW ha0 rfl (by decide) hv5 ?_
    refine en_segs [(14, .bipush 48, [])] (by decide +kernel) (y := (16, [some (.ref a0), some (.int p1)], [.int 48, .int v5], h)) rfl ?_
    refine en_ic_lt (by decide +kernel : u_at kl_178 16 = some (.if_icmp .lt 18, [34])) (fun b6 => ?_) (fun b6 => ?_)
    · replace hF := i_pos b6 hF
      refine en_segs [(34, .iconst 0, [])] (by decide +kernel) (y := (35, [some (.ref a0), some (.int p1)], [.int 0], h)) rfl ?_
      obtain rfl := Option.some.inj hF
      exact j2
    · replace hF := i_neg b6 hF
      refine en_segs [(19, .aload_n 0, [])] (by decide +kernel) (y := (20, [some (.ref a0), some (.int p1)], [.ref a0], h)) rfl ?_
      refine en_get (by decide +kernel : u_at kl_178 20 = some (.getfield 7, [12, 0])) hW ha0 (by decide) rfl ?_
      refine en_segs [(23, .iload_n 1, [])] (by decide +kernel) (y := (24, [some (.ref a0), some (.int p1)], [.int p1, .ref (aP d 12 0 a0)], h)) rfl ?_
      obtain ⟨v7, hv7, hF⟩ := ob_some hF
      refine en_bald (by decide +kernel : u_at kl_178 24 = some (.baload, [])) hW ha0 rfl (by decide) hv7 ?_
      refine en_segs [(25, .bipush 57, [])] (by decide +kernel) (y := (27, [some (.ref a0), some (.int p1)], [.int 57, .int v7], h)) rfl ?_
      refine en_ic_gt (by decide +kernel : u_at kl_178 27 = some (.if_icmp .gt 7, [34])) (fun b8 => ?_) (fun b8 => ?_)
      · replace hF := i_pos b8 hF
        refine en_segs [(34, .iconst 0, [])] (by decide +kernel) (y := (35, [some (.ref a0), some (.int p1)], [.int 0], h)) rfl ?_
        obtain rfl := Option.some.inj hF
        exact j2
      · replace hF := i_neg b8 hF
        refine en_segs [(30, .iconst 1, []), (31, .goto 4, [35])] (by decide +kernel) (y := (35, [some (.ref a0), some (.int p1)], [.int 1], h)) rfl ?_
        obtain rfl := Option.some.inj hF
        exact j2
def F_179 (c12 : Cl) (a0 : Nat) (p1 : Int32) : Option Int32 :=
  ((if (cI c12 1 a0) ≤ p1 then
  some 0
  else
  ald (cA c12 0 a0) 400 p1 >>= fun v5 =>
  if v5 < 97 then
  some 0
  else
  ald (cA c12 0 a0) 400 p1 >>= fun v7 =>
  if 122 < v7 then
  some 0
  else
  some 1) : Option (Int32)) >>= fun (t1 : Int32) =>
  zb t1 >>= fun z3 => some z3
set_option maxRecDepth 100000 in
set_option maxHeartbeats 4000000 in
/-- HeadCountsModel.isLetter -/
theorem e_179 {D : Nat} {c0 c1 c2 c3 c4 c5 c6 c7 c8 c9 c10 c11 c12 c13 : Cl} {d : Ad} {h : UH} {a0 : Nat} {p1 : Int32} {r : Int32} (hD : 1 ≤ D) (hW : HW (mkw c0 c1 c2 c3 c4 c5 c6 c7 c8 c9 c10 c11 c12 c13) d h) (ha0 : aK d a0 = (0, 12, 0)) (hF : F_179 c12 a0 p1 = some r) : ∃ q, EX D 179 [.ref a0, .int p1] h q ∧ q.1 = some (.int r) ∧ h = q.2 := by
  obtain ⟨D, rfl⟩ : ∃ E, D = E + 1 := ⟨D - 1, by omega⟩
  unfold F_179 at hF
  refine ex_in (kl := kl_179) (nL := 2) rfl (by decide +kernel) (Nat.le_of_ble_eq_true rfl) ?_
  obtain ⟨QQ, hQQ⟩ : ∃ QQ : UR → Prop, QQ = (fun q : UR => q.1 = some (.int r) ∧ h = q.2) := ⟨_, rfl⟩
  rw [← hQQ]
  have hQ : QQ (some (.int r), h) := by rw [hQQ]; exact ⟨rfl, rfl⟩
  clear hQQ
  show Ends (EX D) (u_at kl_179) (0, [some (.ref a0), some (.int p1)], [], h) QQ
  refine en_segs [(0, .iload_n 1, []), (1, .aload_n 0, [])] (by decide +kernel) (y := (2, [some (.ref a0), some (.int p1)], [.ref a0, .int p1], h)) rfl ?_
  refine en_get (by decide +kernel : u_at kl_179 2 = some (.getfield 122, [12, 1])) hW ha0 (by decide) rfl ?_
  obtain ⟨t1, hX, hK⟩ := ob_some hF
  have j2 : Ends (EX D) (u_at kl_179) (35, [some (.ref a0), some (.int p1)], [.int t1], h) QQ := by
    have hF := hK
    obtain ⟨z3, hz3, hF⟩ := ob_some hF
    obtain rfl := Option.some.inj hF
    exact en_retZ (by decide +kernel : u_at kl_179 35 = some (.ireturn, [1])) hz3 (hQ)
  have hF := hX
  refine en_ic_ge (by decide +kernel : u_at kl_179 5 = some (.if_icmp .ge 29, [34])) (fun b4 => ?_) (fun b4 => ?_)
  · replace hF := i_pos b4 hF
    refine en_segs [(34, .iconst 0, [])] (by decide +kernel) (y := (35, [some (.ref a0), some (.int p1)], [.int 0], h)) rfl ?_
    obtain rfl := Option.some.inj hF
    exact j2
  · replace hF := i_neg b4 hF
    refine en_segs [(8, .aload_n 0, [])] (by decide +kernel) (y := (9, [some (.ref a0), some (.int p1)], [.ref a0], h)) rfl ?_
    refine en_get (by decide +kernel : u_at kl_179 9 = some (.getfield 7, [12, 0])) hW ha0 (by decide) rfl ?_
    refine en_segs [(12, .iload_n 1, [])] (by decide +kernel) (y := (13, [some (.ref a0), some (.int p1)], [.int p1, .ref (aP d 12 0 a0)], h)) rfl ?_
    obtain ⟨v5, hv5, hF⟩ := ob_some hF
    refine en_bald (by decide +kernel : u_at kl_179 13 = some (.baload, [])) hW ha0 rfl (by decide) hv5 ?_
    refine en_segs [(14, .bipush 97, [])] (by decide +kernel) (y := (16, [some (.ref a0), some (.int p1)], [.int 97, .int v5], h)) rfl ?_
    refine en_ic_lt (by decide +kernel : u_at kl_179 16 = some (.if_icmp .lt 18, [34])) (fun b6 => ?_) (fun b6 => ?_)
    · replace hF := i_pos b6 hF
      refine en_segs [(34, .iconst 0, [])] (by decide +kernel) (y := (35, [some (.ref a0), some (.int p1)], [.int 0], h)) rfl ?_
      obtain rfl := Option.some.inj hF
      exact j2
    · replace hF := i_neg b6 hF
      refine en_segs [(19, .aload_n 0, [])] (by decide +kernel) (y := (20, [some (.ref a0), some (.int p1)], [.ref a0], h)) rfl ?_
      refine en_get (by decide +kernel : u_at kl_179 20 = some (.getfield 7, [12, 0])) hW ha0 (by decide) rfl ?_
      refine en_segs [(23, .iload_n 1, [])] (by decide +kernel) (y := (24, [some (.ref a0), some (.int p1)], [.int p1, .ref (aP d 12 0 a0)], h)) rfl ?_
      obtain ⟨v7, hv7, hF⟩ := ob_some hF
      refine en_bald (by decide +kernel : u_at kl_179 24 = some (.baload, [])) hW ha0 rfl (by decide) hv7 ?_
      refine en_segs [(25, .bipush 122, [])] (by decide +kernel) (y := (27, [some (.ref a0), some (.int p1)], [.int 122, .int v7], h)) rfl ?_
      refine en_ic_gt (by decide +kernel : u_at kl_179 27 = some (.if_icmp .gt 7, [34])) (fun b8 => ?_) (fun b8 => ?_)
      · replace hF := i_pos b8 hF
        refine en_segs [(34, .iconst 0, [])] (by decide +kernel) (y := (35, [some (.ref a0), some (.int p1)], [.int 0], h)) rfl ?_
        obtain rfl := Option.some.inj hF
        exact j2
      · replace hF := i_neg b8 hF
        refine en_segs [(30, .iconst 1, []), (31, .goto 4, [35])] (by decide +kernel) (y := (35, [some (.ref a0), some (.int p1)], [.int 1], h)) rfl ?_
        obtain rfl := Option.some.inj hF
        exact j2
