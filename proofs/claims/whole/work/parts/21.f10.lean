def G_5 (R_5 : Cl → Cl → Cl → Ad → Nat → Int32 → Int32 → Int32 → Int64 → Option (Cl × Cl × Cl)) (d : Ad) (a0 : Nat) (lab : Nat) (xs : List Int32) (ys : List Int64) (zs : List Nat) (c0 : Cl) (c6 : Cl) (c13 : Cl) : Option (Cl × Cl × Cl) := match lab, xs, ys, zs with
  | 0, [x1, x2, x3, x6, x7], [y4], [] =>
    if (cI c6 0 (cR c0 0 a0)) ≤ x7 then
    some (c0, c6, c13)
    else
    if (cI c0 8 a0) = 0 then
    if x7 = x6 then
    if (cI c0 7 a0) = 0 then
    if x1 = (cI c0 4 a0) then
    G_5 R_5 d a0 0 [x1, x2, x3, x6, x7 + 1] [y4] [] c0 c6 c13
    else
    G_5 R_5 d a0 1 [x1, x2, x3, x6, x7] [y4] [] c0 c6 c13
    else
    G_5 R_5 d a0 1 [x1, x2, x3, x6, x7] [y4] [] c0 c6 c13
    else
    if (cI c0 6 a0) ≤ x3 then
    G_5 R_5 d a0 0 [x1, x2, x3, x6, x7 + 1] [y4] [] c0 c6 c13
    else
    F_59 c6 (cR c0 0 a0) x6 x7 >>= fun r12 =>
    if r12 = 0 then
    G_5 R_5 d a0 0 [x1, x2, x3, x6, x7 + 1] [y4] [] c0 c6 c13
    else
    if (cI c0 7 a0) = 0 then
    if x1 = (cI c0 4 a0) then
    if x7 = (cI c0 5 a0) then
    G_5 R_5 d a0 2 [x1, x2, x3, x6, x7] [y4] [] c0 c6 c13
    else
    G_5 R_5 d a0 0 [x1, x2, x3, x6, x7 + 1] [y4] [] c0 c6 c13
    else
    G_5 R_5 d a0 2 [x1, x2, x3, x6, x7] [y4] [] c0 c6 c13
    else
    G_5 R_5 d a0 2 [x1, x2, x3, x6, x7] [y4] [] c0 c6 c13
    else
    some (c0, c6, c13)
  | 1, [x1, x2, x3, x6, x7], [y4], [] =>
    R_5 c0 c6 c13 d a0 (x1 + 1) x2 x3 y4 >>= fun r17 =>
    G_5 R_5 d a0 0 [x1, x2, x3, x6, x7 + 1] [y4] [] r17.1 r17.2.1 r17.2.2
  | 2, [x1, x2, x3, x6, x7], [y4], [] =>
    ald (cA c6 11 (cR c0 0 a0)) 6 x6 >>= fun v19 =>
    ald (cA c6 5 (cR c0 0 a0)) 6 x1 >>= fun v20 =>
    ast c6 11 (cR c0 0 a0) 6 x6 (v19 - v20) >>= fun c6_21 =>
    ald (cA c6_21 11 (cR c0 0 a0)) 6 x7 >>= fun v22 =>
    ald (cA c6_21 5 (cR c0 0 a0)) 6 x1 >>= fun v23 =>
    ast c6_21 11 (cR c0 0 a0) 6 x7 (v22 + v23) >>= fun c6_24 =>
    ald (cA c6_24 5 (cR c0 0 a0)) 6 x1 >>= fun v25 =>
    ldl (cB c6_24 9 (cR c0 0 a0)) 6 x7 >>= fun v26 =>
    ldl (cB c6_24 9 (cR c0 0 a0)) 6 x6 >>= fun v27 =>
    ald (cA c6_24 6 (cR c0 0 a0)) 6 x1 >>= fun v28 =>
    R_5 c0 c6_24 c13 d a0 (x1 + 1) (x2 + ((x7 - x6) * v28)) (x3 + 1) (y4 + (((v25 : Int32).toInt64) * (v26 - v27))) >>= fun r29 =>
    ald (cA r29.2.1 11 (cR r29.1 0 a0)) 6 x6 >>= fun v31 =>
    ald (cA r29.2.1 5 (cR r29.1 0 a0)) 6 x1 >>= fun v32 =>
    ast r29.2.1 11 (cR r29.1 0 a0) 6 x6 (v31 + v32) >>= fun c6_33 =>
    ald (cA c6_33 11 (cR r29.1 0 a0)) 6 x7 >>= fun v34 =>
    ald (cA c6_33 5 (cR r29.1 0 a0)) 6 x1 >>= fun v35 =>
    ast c6_33 11 (cR r29.1 0 a0) 6 x7 (v34 - v35) >>= fun c6_36 =>
    G_5 R_5 d a0 0 [x1, x2, x3, x6, x7 + 1] [y4] [] r29.1 c6_36 r29.2.2
  | _, _, _, _ => none
partial_fixpoint
set_option maxRecDepth 100000 in
set_option maxHeartbeats 4000000 in
theorem g_5 {D : Nat} {R_5 : Cl → Cl → Cl → Ad → Nat → Int32 → Int32 → Int32 → Int64 → Option (Cl × Cl × Cl)} (hR_5 : ∀ {c0 c1 c2 c3 c4 c5 c6 c7 c8 c9 c10 c11 c12 c13 : Cl} {d : Ad} {h : UH} {a0 : Nat} {p1 : Int32} {p2 : Int32} {p3 : Int32} {p4 : Int64} {r : (Cl × Cl × Cl)}, HW (mkw c0 c1 c2 c3 c4 c5 c6 c7 c8 c9 c10 c11 c12 c13) d h → aK d a0 = (0, 0, 0) → R_5 c0 c6 c13 d a0 p1 p2 p3 p4 = some r → ∃ q, EX D 5 [.ref a0, .int p1, .int p2, .int p3, .long p4] h q ∧ q.1 = none ∧ HW (mkw r.1 c1 c2 c3 c4 c5 r.2.1 c7 c8 c9 c10 c11 c12 r.2.2) d q.2) (hD : 5 ≤ D + 1) {c1 c2 c3 c4 c5 c7 c8 c9 c10 c11 c12 : Cl} {d : Ad} {a0 : Nat} (ha0 : aK d a0 = (0, 0, 0)) : ∀ (lab : Nat) (xs : List Int32) (ys : List Int64) (zs : List Nat) (c0 : Cl) (c6 : Cl) (c13 : Cl) (r : (Cl × Cl × Cl)), G_5 R_5 d a0 lab xs ys zs c0 c6 c13 = some r →
    (∀ (x1 : Int32) (x2 : Int32) (x3 : Int32) (x6 : Int32) (x7 : Int32) (y4 : Int64), lab = 0 → xs = [x1, x2, x3, x6, x7] → ys = [y4] → zs = [] → ∀ h : UH, HW (mkw c0 c1 c2 c3 c4 c5 c6 c7 c8 c9 c10 c11 c12 c13) d h → ∀ QQ : UR → Prop, (∀ h' : UH, HW (mkw r.1 c1 c2 c3 c4 c5 r.2.1 c7 c8 c9 c10 c11 c12 r.2.2) d h' → QQ (none, h')) → Ends (EX D) (u_at kl_5) (34, [some (.ref a0), some (.int x1), some (.int x2), some (.int x3), some (.long y4), none, some (.int x6), some (.int x7), none, none], [], h) QQ) ∧
    (∀ (x1 : Int32) (x2 : Int32) (x3 : Int32) (x6 : Int32) (x7 : Int32) (y4 : Int64), lab = 1 → xs = [x1, x2, x3, x6, x7] → ys = [y4] → zs = [] → ∀ h : UH, HW (mkw c0 c1 c2 c3 c4 c5 c6 c7 c8 c9 c10 c11 c12 c13) d h → ∀ QQ : UR → Prop, (∀ h' : UH, HW (mkw r.1 c1 c2 c3 c4 c5 r.2.1 c7 c8 c9 c10 c11 c12 r.2.2) d h' → QQ (none, h')) → Ends (EX D) (u_at kl_5) (75, [some (.ref a0), some (.int x1), some (.int x2), some (.int x3), some (.long y4), none, some (.int x6), some (.int x7), none, none], [], h) QQ) ∧
    (∀ (x1 : Int32) (x2 : Int32) (x3 : Int32) (x6 : Int32) (x7 : Int32) (y4 : Int64), lab = 2 → xs = [x1, x2, x3, x6, x7] → ys = [y4] → zs = [] → ∀ h : UH, HW (mkw c0 c1 c2 c3 c4 c5 c6 c7 c8 c9 c10 c11 c12 c13) d h → ∀ QQ : UR → Prop, (∀ h' : UH, HW (mkw r.1 c1 c2 c3 c4 c5 r.2.1 c7 c8 c9 c10 c11 c12 r.2.2) d h' → QQ (none, h')) → Ends (EX D) (u_at kl_5) (135, [some (.ref a0), some (.int x1), some (.int x2), some (.int x3), some (.long y4), none, some (.int x6), some (.int x7), none, none], [], h) QQ) := by
  refine G_5.partial_correctness _ _ _ (motive := fun lab xs ys zs c0 c6 c13 r =>
    (∀ (x1 : Int32) (x2 : Int32) (x3 : Int32) (x6 : Int32) (x7 : Int32) (y4 : Int64), lab = 0 → xs = [x1, x2, x3, x6, x7] → ys = [y4] → zs = [] → ∀ h : UH, HW (mkw c0 c1 c2 c3 c4 c5 c6 c7 c8 c9 c10 c11 c12 c13) d h → ∀ QQ : UR → Prop, (∀ h' : UH, HW (mkw r.1 c1 c2 c3 c4 c5 r.2.1 c7 c8 c9 c10 c11 c12 r.2.2) d h' → QQ (none, h')) → Ends (EX D) (u_at kl_5) (34, [some (.ref a0), some (.int x1), some (.int x2), some (.int x3), some (.long y4), none, some (.int x6), some (.int x7), none, none], [], h) QQ) ∧
    (∀ (x1 : Int32) (x2 : Int32) (x3 : Int32) (x6 : Int32) (x7 : Int32) (y4 : Int64), lab = 1 → xs = [x1, x2, x3, x6, x7] → ys = [y4] → zs = [] → ∀ h : UH, HW (mkw c0 c1 c2 c3 c4 c5 c6 c7 c8 c9 c10 c11 c12 c13) d h → ∀ QQ : UR → Prop, (∀ h' : UH, HW (mkw r.1 c1 c2 c3 c4 c5 r.2.1 c7 c8 c9 c10 c11 c12 r.2.2) d h' → QQ (none, h')) → Ends (EX D) (u_at kl_5) (75, [some (.ref a0), some (.int x1), some (.int x2), some (.int x3), some (.long y4), none, some (.int x6), some (.int x7), none, none], [], h) QQ) ∧
    (∀ (x1 : Int32) (x2 : Int32) (x3 : Int32) (x6 : Int32) (x7 : Int32) (y4 : Int64), lab = 2 → xs = [x1, x2, x3, x6, x7] → ys = [y4] → zs = [] → ∀ h : UH, HW (mkw c0 c1 c2 c3 c4 c5 c6 c7 c8 c9 c10 c11 c12 c13) d h → ∀ QQ : UR → Prop, (∀ h' : UH, HW (mkw r.1 c1 c2 c3 c4 c5 r.2.1 c7 c8 c9 c10 c11 c12 r.2.2) d h' → QQ (none, h')) → Ends (EX D) (u_at kl_5) (135, [some (.ref a0), some (.int x1), some (.int x2), some (.int x3), some (.long y4), none, some (.int x6), some (.int x7), none, none], [], h) QQ)) ?_
  intro G ih lab xs ys zs c0 c6 c13 r hF
  refine ⟨?_, ?_, ?_⟩
  · intro x1 x2 x3 x6 x7 y4 e1 e2 e3 e4 h hW QQ hQ
    subst e1 e2 e3 e4
    refine en_segs [(34, .iload 7, []), (36, .aload_n 0, [])] (by decide +kernel) (y := (37, [some (.ref a0), some (.int x1), some (.int x2), some (.int x3), some (.long y4), none, some (.int x6), some (.int x7), none, none], [.ref a0, .int x7], h)) rfl ?_
    have k5 : aK d (cR c0 0 a0) = (0, 6, 0) := wf_obj hW ha0 (by decide) rfl
    refine en_get (by decide +kernel : u_at kl_5 37 = some (.getfield 9, [0, 0])) hW ha0 (by decide) rfl ?_
    refine en_get (by decide +kernel : u_at kl_5 40 = some (.getfield 107, [6, 0])) hW k5 (by decide) rfl ?_
    refine en_ic_ge (by decide +kernel : u_at kl_5 43 = some (.if_icmp .ge 252, [295])) (fun b6 => ?_) (fun b6 => ?_)
    · replace hF := i_pos b6 hF
      obtain rfl := Option.some.inj hF
      exact en_ret (by decide +kernel : u_at kl_5 295 = some (.return_, [])) rfl (hQ _ hW)
    · replace hF := i_neg b6 hF
      refine en_segs [(46, .aload_n 0, [])] (by decide +kernel) (y := (47, [some (.ref a0), some (.int x1), some (.int x2), some (.int x3), some (.long y4), none, some (.int x6), some (.int x7), none, none], [.ref a0], h)) rfl ?_
      refine en_get (by decide +kernel : u_at kl_5 47 = some (.getfield 40, [0, 8])) hW ha0 (by decide) rfl ?_
      refine en_if_ne (by decide +kernel : u_at kl_5 50 = some (.ifCond .ne 245, [295])) (fun b7 => ?_) (fun b7 => ?_)
      · replace hF := i_pos b7 hF
        refine en_segs [(53, .iload 7, []), (55, .iload 6, [])] (by decide +kernel) (y := (57, [some (.ref a0), some (.int x1), some (.int x2), some (.int x3), some (.long y4), none, some (.int x6), some (.int x7), none, none], [.int x6, .int x7], h)) rfl ?_
        refine en_ic_ne (by decide +kernel : u_at kl_5 57 = some (.if_icmp .ne 32, [89])) (fun b8 => ?_) (fun b8 => ?_)
        · replace hF := i_pos b8 hF
          refine en_segs [(60, .aload_n 0, [])] (by decide +kernel) (y := (61, [some (.ref a0), some (.int x1), some (.int x2), some (.int x3), some (.long y4), none, some (.int x6), some (.int x7), none, none], [.ref a0], h)) rfl ?_
          refine en_get (by decide +kernel : u_at kl_5 61 = some (.getfield 54, [0, 7])) hW ha0 (by decide) rfl ?_
          refine en_if_ne (by decide +kernel : u_at kl_5 64 = some (.ifCond .ne 11, [75])) (fun b9 => ?_) (fun b9 => ?_)
          · replace hF := i_pos b9 hF
            refine en_segs [(67, .iload_n 1, []), (68, .aload_n 0, [])] (by decide +kernel) (y := (69, [some (.ref a0), some (.int x1), some (.int x2), some (.int x3), some (.long y4), none, some (.int x6), some (.int x7), none, none], [.ref a0, .int x1], h)) rfl ?_
            refine en_get (by decide +kernel : u_at kl_5 69 = some (.getfield 25, [0, 4])) hW ha0 (by decide) rfl ?_
            refine en_ic_eq (by decide +kernel : u_at kl_5 72 = some (.if_icmp .eq 217, [289])) (fun b10 => ?_) (fun b10 => ?_)
            · replace hF := i_pos b10 hF
              refine en_segs [(289, .iinc 7 1, []), (292, .goto (-258), [34])] (by decide +kernel) (y := (34, [some (.ref a0), some (.int x1), some (.int x2), some (.int x3), some (.long y4), none, some (.int x6), some (.int (x7 + 1)), none, none], [], h)) rfl ?_
              exact (ih _ _ _ _ _ _ _ _ hF).1 _ _ _ _ _ _ rfl rfl rfl rfl  _ hW _ hQ
            · replace hF := i_neg b10 hF
              exact (ih _ _ _ _ _ _ _ _ hF).2.1 _ _ _ _ _ _ rfl rfl rfl rfl  _ hW _ hQ
          · replace hF := i_neg b9 hF
            exact (ih _ _ _ _ _ _ _ _ hF).2.1 _ _ _ _ _ _ rfl rfl rfl rfl  _ hW _ hQ
        · replace hF := i_neg b8 hF
          refine en_segs [(89, .iload_n 3, []), (90, .aload_n 0, [])] (by decide +kernel) (y := (91, [some (.ref a0), some (.int x1), some (.int x2), some (.int x3), some (.long y4), none, some (.int x6), some (.int x7), none, none], [.ref a0, .int x3], h)) rfl ?_
          refine en_get (by decide +kernel : u_at kl_5 91 = some (.getfield 60, [0, 6])) hW ha0 (by decide) rfl ?_
          refine en_ic_ge (by decide +kernel : u_at kl_5 94 = some (.if_icmp .ge 195, [289])) (fun b11 => ?_) (fun b11 => ?_)
          · replace hF := i_pos b11 hF
            refine en_segs [(289, .iinc 7 1, []), (292, .goto (-258), [34])] (by decide +kernel) (y := (34, [some (.ref a0), some (.int x1), some (.int x2), some (.int x3), some (.long y4), none, some (.int x6), some (.int (x7 + 1)), none, none], [], h)) rfl ?_
            exact (ih _ _ _ _ _ _ _ _ hF).1 _ _ _ _ _ _ rfl rfl rfl rfl  _ hW _ hQ
          · replace hF := i_neg b11 hF
            refine en_segs [(97, .aload_n 0, [])] (by decide +kernel) (y := (98, [some (.ref a0), some (.int x1), some (.int x2), some (.int x3), some (.long y4), none, some (.int x6), some (.int x7), none, none], [.ref a0], h)) rfl ?_
            refine en_get (by decide +kernel : u_at kl_5 98 = some (.getfield 9, [0, 0])) hW ha0 (by decide) rfl ?_
            refine en_segs [(101, .iload 6, []), (103, .iload 7, [])] (by decide +kernel) (y := (105, [some (.ref a0), some (.int x1), some (.int x2), some (.int x3), some (.long y4), none, some (.int x6), some (.int x7), none, none], [.int x7, .int x6, .ref (cR c0 0 a0)], h)) rfl ?_
            obtain ⟨r12, hr12, hF⟩ := ob_some hF
            refine en_vi (r := []) (by decide +kernel : u_at kl_5 105 = some (.invokevirtual 110, [59, 2, 6])) hW k5 rfl rfl (Nat.le_of_ble_eq_true rfl) (e_59 (D := D) (by omega) hW k5 hr12) (fun h' q => ?_)
            subst q
            refine en_if_eq (by decide +kernel : u_at kl_5 108 = some (.ifCond .eq 181, [289])) (fun b13 => ?_) (fun b13 => ?_)
            · replace hF := i_pos b13 hF
              refine en_segs [(289, .iinc 7 1, []), (292, .goto (-258), [34])] (by decide +kernel) (y := (34, [some (.ref a0), some (.int x1), some (.int x2), some (.int x3), some (.long y4), none, some (.int x6), some (.int (x7 + 1)), none, none], [], h)) rfl ?_
              exact (ih _ _ _ _ _ _ _ _ hF).1 _ _ _ _ _ _ rfl rfl rfl rfl  _ hW _ hQ
            · replace hF := i_neg b13 hF
              refine en_segs [(111, .aload_n 0, [])] (by decide +kernel) (y := (112, [some (.ref a0), some (.int x1), some (.int x2), some (.int x3), some (.long y4), none, some (.int x6), some (.int x7), none, none], [.ref a0], h)) rfl ?_
              refine en_get (by decide +kernel : u_at kl_5 112 = some (.getfield 54, [0, 7])) hW ha0 (by decide) rfl ?_
              refine en_if_ne (by decide +kernel : u_at kl_5 115 = some (.ifCond .ne 20, [135])) (fun b14 => ?_) (fun b14 => ?_)
              · replace hF := i_pos b14 hF
                refine en_segs [(118, .iload_n 1, []), (119, .aload_n 0, [])] (by decide +kernel) (y := (120, [some (.ref a0), some (.int x1), some (.int x2), some (.int x3), some (.long y4), none, some (.int x6), some (.int x7), none, none], [.ref a0, .int x1], h)) rfl ?_
                refine en_get (by decide +kernel : u_at kl_5 120 = some (.getfield 25, [0, 4])) hW ha0 (by decide) rfl ?_
                refine en_ic_ne (by decide +kernel : u_at kl_5 123 = some (.if_icmp .ne 12, [135])) (fun b15 => ?_) (fun b15 => ?_)
                · replace hF := i_pos b15 hF
                  refine en_segs [(126, .iload 7, []), (128, .aload_n 0, [])] (by decide +kernel) (y := (129, [some (.ref a0), some (.int x1), some (.int x2), some (.int x3), some (.long y4), none, some (.int x6), some (.int x7), none, none], [.ref a0, .int x7], h)) rfl ?_
                  refine en_get (by decide +kernel : u_at kl_5 129 = some (.getfield 29, [0, 5])) hW ha0 (by decide) rfl ?_
                  refine en_ic_ne (by decide +kernel : u_at kl_5 132 = some (.if_icmp .ne 157, [289])) (fun b16 => ?_) (fun b16 => ?_)
                  · replace hF := i_pos b16 hF
                    exact (ih _ _ _ _ _ _ _ _ hF).2.2 _ _ _ _ _ _ rfl rfl rfl rfl  _ hW _ hQ
                  · replace hF := i_neg b16 hF
                    refine en_segs [(289, .iinc 7 1, []), (292, .goto (-258), [34])] (by decide +kernel) (y := (34, [some (.ref a0), some (.int x1), some (.int x2), some (.int x3), some (.long y4), none, some (.int x6), some (.int (x7 + 1)), none, none], [], h)) rfl ?_
                    exact (ih _ _ _ _ _ _ _ _ hF).1 _ _ _ _ _ _ rfl rfl rfl rfl  _ hW _ hQ
                · replace hF := i_neg b15 hF
                  exact (ih _ _ _ _ _ _ _ _ hF).2.2 _ _ _ _ _ _ rfl rfl rfl rfl  _ hW _ hQ
              · replace hF := i_neg b14 hF
                exact (ih _ _ _ _ _ _ _ _ hF).2.2 _ _ _ _ _ _ rfl rfl rfl rfl  _ hW _ hQ
      · replace hF := i_neg b7 hF
        obtain rfl := Option.some.inj hF
        exact en_ret (by decide +kernel : u_at kl_5 295 = some (.return_, [])) rfl (hQ _ hW)
  · intro x1 x2 x3 x6 x7 y4 e1 e2 e3 e4 h hW QQ hQ
    subst e1 e2 e3 e4
    refine en_segs [(75, .aload_n 0, []), (76, .iload_n 1, []), (77, .iconst 1, []), (78, .iadd, []), (79, .iload_n 2, []), (80, .iload_n 3, []), (81, .lload 4, [])] (by decide +kernel) (y := (83, [some (.ref a0), some (.int x1), some (.int x2), some (.int x3), some (.long y4), none, some (.int x6), some (.int x7), none, none], [.long y4, .int x3, .int x2, .int (x1 + 1), .ref a0], h)) rfl ?_
    obtain ⟨r17, hr17, hF⟩ := ob_some hF
    refine en_vv (r := []) (by decide +kernel : u_at kl_5 83 = some (.invokevirtual 69, [5, 4, 0])) hW ha0 rfl rfl (Nat.le_of_ble_eq_true rfl) (hR_5 hW ha0 hr17) (fun h hW => ?_)
    have hW : HW (mkw r17.1 c1 c2 c3 c4 c5 r17.2.1 c7 c8 c9 c10 c11 c12 r17.2.2) d h := hW
    refine en_segs [(86, .goto 203, [289]), (289, .iinc 7 1, []), (292, .goto (-258), [34])] (by decide +kernel) (y := (34, [some (.ref a0), some (.int x1), some (.int x2), some (.int x3), some (.long y4), none, some (.int x6), some (.int (x7 + 1)), none, none], [], h)) rfl ?_
    exact (ih _ _ _ _ _ _ _ _ hF).1 _ _ _ _ _ _ rfl rfl rfl rfl  _ hW _ hQ
  · intro x1 x2 x3 x6 x7 y4 e1 e2 e3 e4 h hW QQ hQ
    subst e1 e2 e3 e4
    refine en_segs [(135, .aload_n 0, [])] (by decide +kernel) (y := (136, [some (.ref a0), some (.int x1), some (.int x2), some (.int x3), some (.long y4), none, some (.int x6), some (.int x7), none, none], [.ref a0], h)) rfl ?_
    have k18 : aK d (cR c0 0 a0) = (0, 6, 0) := wf_obj hW ha0 (by decide) rfl
    refine en_get (by decide +kernel : u_at kl_5 136 = some (.getfield 9, [0, 0])) hW ha0 (by decide) rfl ?_
    refine en_get (by decide +kernel : u_at kl_5 139 = some (.getfield 114, [6, 11])) hW k18 (by decide) rfl ?_
    refine en_segs [(142, .iload 6, []), (144, .dup2, [])] (by decide +kernel) (y := (145, [some (.ref a0), some (.int x1), some (.int x2), some (.int x3), some (.long y4), none, some (.int x6), some (.int x7), none, none], [.int x6, .ref (aP d 6 11 (cR c0 0 a0)), .int x6, .ref (aP d 6 11 (cR c0 0 a0))], h)) rfl ?_
    obtain ⟨v19, hv19, hF⟩ := ob_some hF
    refine en_iald (by decide +kernel : u_at kl_5 145 = some (.iaload, [])) hW k18 rfl (by decide) hv19 ?_
    refine en_segs [(146, .aload_n 0, [])] (by decide +kernel) (y := (147, [some (.ref a0), some (.int x1), some (.int x2), some (.int x3), some (.long y4), none, some (.int x6), some (.int x7), none, none], [.ref a0, .int v19, .int x6, .ref (aP d 6 11 (cR c0 0 a0))], h)) rfl ?_
    refine en_get (by decide +kernel : u_at kl_5 147 = some (.getfield 9, [0, 0])) hW ha0 (by decide) rfl ?_
    refine en_get (by decide +kernel : u_at kl_5 150 = some (.getfield 117, [6, 5])) hW k18 (by decide) rfl ?_
    refine en_segs [(153, .iload_n 1, [])] (by decide +kernel) (y := (154, [some (.ref a0), some (.int x1), some (.int x2), some (.int x3), some (.long y4), none, some (.int x6), some (.int x7), none, none], [.int x1, .ref (aP d 6 5 (cR c0 0 a0)), .int v19, .int x6, .ref (aP d 6 11 (cR c0 0 a0))], h)) rfl ?_
    obtain ⟨v20, hv20, hF⟩ := ob_some hF
    refine en_iald (by decide +kernel : u_at kl_5 154 = some (.iaload, [])) hW k18 rfl (by decide) hv20 ?_
    refine en_segs [(155, .isub, [])] (by decide +kernel) (y := (156, [some (.ref a0), some (.int x1), some (.int x2), some (.int x3), some (.long y4), none, some (.int x6), some (.int x7), none, none], [.int (v19 - v20), .int x6, .ref (aP d 6 11 (cR c0 0 a0))], h)) rfl ?_
    obtain ⟨c6_21, hc6_21, hF⟩ := ob_some hF
    refine en_iast (by decide +kernel : u_at kl_5 156 = some (.iastore, [])) hW k18 rfl (by decide) hc6_21 (fun h hW => ?_)
    have hW : HW (mkw c0 c1 c2 c3 c4 c5 c6_21 c7 c8 c9 c10 c11 c12 c13) d h := hW
    refine en_segs [(157, .aload_n 0, [])] (by decide +kernel) (y := (158, [some (.ref a0), some (.int x1), some (.int x2), some (.int x3), some (.long y4), none, some (.int x6), some (.int x7), none, none], [.ref a0], h)) rfl ?_
    refine en_get (by decide +kernel : u_at kl_5 158 = some (.getfield 9, [0, 0])) hW ha0 (by decide) rfl ?_
    refine en_get (by decide +kernel : u_at kl_5 161 = some (.getfield 114, [6, 11])) hW k18 (by decide) rfl ?_
    refine en_segs [(164, .iload 7, []), (166, .dup2, [])] (by decide +kernel) (y := (167, [some (.ref a0), some (.int x1), some (.int x2), some (.int x3), some (.long y4), none, some (.int x6), some (.int x7), none, none], [.int x7, .ref (aP d 6 11 (cR c0 0 a0)), .int x7, .ref (aP d 6 11 (cR c0 0 a0))], h)) rfl ?_
    obtain ⟨v22, hv22, hF⟩ := ob_some hF
    refine en_iald (by decide +kernel : u_at kl_5 167 = some (.iaload, [])) hW k18 rfl (by decide) hv22 ?_
    refine en_segs [(168, .aload_n 0, [])] (by decide +kernel) (y := (169, [some (.ref a0), some (.int x1), some (.int x2), some (.int x3), some (.long y4), none, some (.int x6), some (.int x7), none, none], [.ref a0, .int v22, .int x7, .ref (aP d 6 11 (cR c0 0 a0))], h)) rfl ?_
    refine en_get (by decide +kernel : u_at kl_5 169 = some (.getfield 9, [0, 0])) hW ha0 (by decide) rfl ?_
    refine en_get (by decide +kernel : u_at kl_5 172 = some (.getfield 117, [6, 5])) hW k18 (by decide) rfl ?_
    refine en_segs [(175, .iload_n 1, [])] (by decide +kernel) (y := (176, [some (.ref a0), some (.int x1), some (.int x2), some (.int x3), some (.long y4), none, some (.int x6), some (.int x7), none, none], [.int x1, .ref (aP d 6 5 (cR c0 0 a0)), .int v22, .int x7, .ref (aP d 6 11 (cR c0 0 a0))], h)) rfl ?_
    obtain ⟨v23, hv23, hF⟩ := ob_some hF
    refine en_iald (by decide +kernel : u_at kl_5 176 = some (.iaload, [])) hW k18 rfl (by decide) hv23 ?_
    refine en_segs [(177, .iadd, [])] (by decide +kernel) (y := (178, [some (.ref a0), some (.int x1), some (.int x2), some (.int x3), some (.long y4), none, some (.int x6), some (.int x7), none, none], [.int (v22 + v23), .int x7, .ref (aP d 6 11 (cR c0 0 a0))], h)) rfl ?_
    obtain ⟨c6_24, hc6_24, hF⟩ := ob_some hF
    refine en_iast (by decide +kernel : u_at kl_5 178 = some (.iastore, [])) hW k18 rfl (by decide) hc6_24 (fun h hW => ?_)
    have hW : HW (mkw c0 c1 c2 c3 c4 c5 c6_24 c7 c8 c9 c10 c11 c12 c13) d h := hW
    refine en_segs [(179, .aload_n 0, [])] (by decide +kernel) (y := (180, [some (.ref a0), some (.int x1), some (.int x2), some (.int x3), some (.long y4), none, some (.int x6), some (.int x7), none, none], [.ref a0], h)) rfl ?_
    refine en_get (by decide +kernel : u_at kl_5 180 = some (.getfield 9, [0, 0])) hW ha0 (by decide) rfl ?_
    refine en_get (by decide +kernel : u_at kl_5 183 = some (.getfield 117, [6, 5])) hW k18 (by decide) rfl ?_
    refine en_segs [(186, .iload_n 1, [])] (by decide +kernel) (y := (187, [some (.ref a0), some (.int x1), some (.int x2), some (.int x3), some (.long y4), none, some (.int x6), some (.int x7), none, none], [.int x1, .ref (aP d 6 5 (cR c0 0 a0))], h)) rfl ?_
    obtain ⟨v25, hv25, hF⟩ := ob_some hF
    refine en_iald (by decide +kernel : u_at kl_5 187 = some (.iaload, [])) hW k18 rfl (by decide) hv25 ?_
    refine en_segs [(188, .i2l, []), (189, .aload_n 0, [])] (by decide +kernel) (y := (190, [some (.ref a0), some (.int x1), some (.int x2), some (.int x3), some (.long y4), none, some (.int x6), some (.int x7), none, none], [.ref a0, .long ((v25 : Int32).toInt64)], h)) rfl ?_
    refine en_get (by decide +kernel : u_at kl_5 190 = some (.getfield 9, [0, 0])) hW ha0 (by decide) rfl ?_
    refine en_get (by decide +kernel : u_at kl_5 193 = some (.getfield 120, [6, 9])) hW k18 (by decide) rfl ?_
    refine en_segs [(196, .iload 7, [])] (by decide +kernel) (y := (198, [some (.ref a0), some (.int x1), some (.int x2), some (.int x3), some (.long y4), none, some (.int x6), some (.int x7), none, none], [.int x7, .ref (aP d 6 9 (cR c0 0 a0)), .long ((v25 : Int32).toInt64)], h)) rfl ?_
    obtain ⟨v26, hv26, hF⟩ := ob_some hF
    refine en_lald (by decide +kernel : u_at kl_5 198 = some (.laload, [])) hW k18 rfl (by decide) hv26 ?_
    refine en_segs [(199, .aload_n 0, [])] (by decide +kernel) (y := (200, [some (.ref a0), some (.int x1), some (.int x2), some (.int x3), some (.long y4), none, some (.int x6), some (.int x7), none, none], [.ref a0, .long v26, .long ((v25 : Int32).toInt64)], h)) rfl ?_
    refine en_get (by decide +kernel : u_at kl_5 200 = some (.getfield 9, [0, 0])) hW ha0 (by decide) rfl ?_
    refine en_get (by decide +kernel : u_at kl_5 203 = some (.getfield 120, [6, 9])) hW k18 (by decide) rfl ?_
    refine en_segs [(206, .iload 6, [])] (by decide +kernel) (y := (208, [some (.ref a0), some (.int x1), some (.int x2), some (.int x3), some (.long y4), none, some (.int x6), some (.int x7), none, none], [.int x6, .ref (aP d 6 9 (cR c0 0 a0)), .long v26, .long ((v25 : Int32).toInt64)], h)) rfl ?_
    obtain ⟨v27, hv27, hF⟩ := ob_some hF
    refine en_lald (by decide +kernel : u_at kl_5 208 = some (.laload, [])) hW k18 rfl (by decide) hv27 ?_
    refine en_segs [(209, .lsub, []), (210, .lmul, []), (211, .lstore 8, []), (213, .aload_n 0, []), (214, .iload_n 1, []), (215, .iconst 1, []), (216, .iadd, []), (217, .iload_n 2, []), (218, .iload 7, []), (220, .iload 6, []), (222, .isub, []), (223, .aload_n 0, [])] (by decide +kernel) (y := (224, [some (.ref a0), some (.int x1), some (.int x2), some (.int x3), some (.long y4), none, some (.int x6), some (.int x7), some (.long (((v25 : Int32).toInt64) * (v26 - v27))), none], [.ref a0, .int (x7 - x6), .int x2, .int (x1 + 1), .ref a0], h)) rfl ?_
    refine en_get (by decide +kernel : u_at kl_5 224 = some (.getfield 9, [0, 0])) hW ha0 (by decide) rfl ?_
    refine en_get (by decide +kernel : u_at kl_5 227 = some (.getfield 123, [6, 6])) hW k18 (by decide) rfl ?_
    refine en_segs [(230, .iload_n 1, [])] (by decide +kernel) (y := (231, [some (.ref a0), some (.int x1), some (.int x2), some (.int x3), some (.long y4), none, some (.int x6), some (.int x7), some (.long (((v25 : Int32).toInt64) * (v26 - v27))), none], [.int x1, .ref (aP d 6 6 (cR c0 0 a0)), .int (x7 - x6), .int x2, .int (x1 + 1), .ref a0], h)) rfl ?_
    obtain ⟨v28, hv28, hF⟩ := ob_some hF
    refine en_iald (by decide +kernel : u_at kl_5 231 = some (.iaload, [])) hW k18 rfl (by decide) hv28 ?_
    refine en_segs [(232, .imul, []), (233, .iadd, []), (234, .iload_n 3, []), (235, .iconst 1, []), (236, .iadd, []), (237, .lload 4, []), (239, .lload 8, []), (241, .ladd, [])] (by decide +kernel) (y := (242, [some (.ref a0), some (.int x1), some (.int x2), some (.int x3), some (.long y4), none, some (.int x6), some (.int x7), some (.long (((v25 : Int32).toInt64) * (v26 - v27))), none], [.long (y4 + (((v25 : Int32).toInt64) * (v26 - v27))), .int (x3 + 1), .int (x2 + ((x7 - x6) * v28)), .int (x1 + 1), .ref a0], h)) rfl ?_
    obtain ⟨r29, hr29, hF⟩ := ob_some hF
    refine en_vv (r := []) (by decide +kernel : u_at kl_5 242 = some (.invokevirtual 69, [5, 4, 0])) hW ha0 rfl rfl (Nat.le_of_ble_eq_true rfl) (hR_5 hW ha0 hr29) (fun h hW => ?_)
    have hW : HW (mkw r29.1 c1 c2 c3 c4 c5 r29.2.1 c7 c8 c9 c10 c11 c12 r29.2.2) d h := hW
    refine en_segs [(245, .aload_n 0, [])] (by decide +kernel) (y := (246, [some (.ref a0), some (.int x1), some (.int x2), some (.int x3), some (.long y4), none, some (.int x6), some (.int x7), some (.long (((v25 : Int32).toInt64) * (v26 - v27))), none], [.ref a0], h)) rfl ?_
    have k30 : aK d (cR r29.1 0 a0) = (0, 6, 0) := wf_obj hW ha0 (by decide) rfl
    refine en_get (by decide +kernel : u_at kl_5 246 = some (.getfield 9, [0, 0])) hW ha0 (by decide) rfl ?_
    refine en_get (by decide +kernel : u_at kl_5 249 = some (.getfield 114, [6, 11])) hW k30 (by decide) rfl ?_
    refine en_segs [(252, .iload 6, []), (254, .dup2, [])] (by decide +kernel) (y := (255, [some (.ref a0), some (.int x1), some (.int x2), some (.int x3), some (.long y4), none, some (.int x6), some (.int x7), some (.long (((v25 : Int32).toInt64) * (v26 - v27))), none], [.int x6, .ref (aP d 6 11 (cR r29.1 0 a0)), .int x6, .ref (aP d 6 11 (cR r29.1 0 a0))], h)) rfl ?_
    obtain ⟨v31, hv31, hF⟩ := ob_some hF
    refine en_iald (by decide +kernel : u_at kl_5 255 = some (.iaload, [])) hW k30 rfl (by decide) hv31 ?_
    refine en_segs [(256, .aload_n 0, [])] (by decide +kernel) (y := (257, [some (.ref a0), some (.int x1), some (.int x2), some (.int x3), some (.long y4), none, some (.int x6), some (.int x7), some (.long (((v25 : Int32).toInt64) * (v26 - v27))), none], [.ref a0, .int v31, .int x6, .ref (aP d 6 11 (cR r29.1 0 a0))], h)) rfl ?_
    refine en_get (by decide +kernel : u_at kl_5 257 = some (.getfield 9, [0, 0])) hW ha0 (by decide) rfl ?_
    refine en_get (by decide +kernel : u_at kl_5 260 = some (.getfield 117, [6, 5])) hW k30 (by decide) rfl ?_
    refine en_segs [(263, .iload_n 1, [])] (by decide +kernel) (y := (264, [some (.ref a0), some (.int x1), some (.int x2), some (.int x3), some (.long y4), none, some (.int x6), some (.int x7), some (.long (((v25 : Int32).toInt64) * (v26 - v27))), none], [.int x1, .ref (aP d 6 5 (cR r29.1 0 a0)), .int v31, .int x6, .ref (aP d 6 11 (cR r29.1 0 a0))], h)) rfl ?_
    obtain ⟨v32, hv32, hF⟩ := ob_some hF
    refine en_iald (by decide +kernel : u_at kl_5 264 = some (.iaload, [])) hW k30 rfl (by decide) hv32 ?_
    refine en_segs [(265, .iadd, [])] (by decide +kernel) (y := (266, [some (.ref a0), some (.int x1), some (.int x2), some (.int x3), some (.long y4), none, some (.int x6), some (.int x7), some (.long (((v25 : Int32).toInt64) * (v26 - v27))), none], [.int (v31 + v32), .int x6, .ref (aP d 6 11 (cR r29.1 0 a0))], h)) rfl ?_
    obtain ⟨c6_33, hc6_33, hF⟩ := ob_some hF
    refine en_iast (by decide +kernel : u_at kl_5 266 = some (.iastore, [])) hW k30 rfl (by decide) hc6_33 (fun h hW => ?_)
    have hW : HW (mkw r29.1 c1 c2 c3 c4 c5 c6_33 c7 c8 c9 c10 c11 c12 r29.2.2) d h := hW
    refine en_segs [(267, .aload_n 0, [])] (by decide +kernel) (y := (268, [some (.ref a0), some (.int x1), some (.int x2), some (.int x3), some (.long y4), none, some (.int x6), some (.int x7), some (.long (((v25 : Int32).toInt64) * (v26 - v27))), none], [.ref a0], h)) rfl ?_
    refine en_get (by decide +kernel : u_at kl_5 268 = some (.getfield 9, [0, 0])) hW ha0 (by decide) rfl ?_
    refine en_get (by decide +kernel : u_at kl_5 271 = some (.getfield 114, [6, 11])) hW k30 (by decide) rfl ?_
    refine en_segs [(274, .iload 7, []), (276, .dup2, [])] (by decide +kernel) (y := (277, [some (.ref a0), some (.int x1), some (.int x2), some (.int x3), some (.long y4), none, some (.int x6), some (.int x7), some (.long (((v25 : Int32).toInt64) * (v26 - v27))), none], [.int x7, .ref (aP d 6 11 (cR r29.1 0 a0)), .int x7, .ref (aP d 6 11 (cR r29.1 0 a0))], h)) rfl ?_
    obtain ⟨v34, hv34, hF⟩ := ob_some hF
    refine en_iald (by decide +kernel : u_at kl_5 277 = some (.iaload, [])) hW k30 rfl (by decide) hv34 ?_
    refine en_segs [(278, .aload_n 0, [])] (by decide +kernel) (y := (279, [some (.ref a0), some (.int x1), some (.int x2), some (.int x3), some (.long y4), none, some (.int x6), some (.int x7), some (.long (((v25 : Int32).toInt64) * (v26 - v27))), none], [.ref a0, .int v34, .int x7, .ref (aP d 6 11 (cR r29.1 0 a0))], h)) rfl ?_
    refine en_get (by decide +kernel : u_at kl_5 279 = some (.getfield 9, [0, 0])) hW ha0 (by decide) rfl ?_
    refine en_get (by decide +kernel : u_at kl_5 282 = some (.getfield 117, [6, 5])) hW k30 (by decide) rfl ?_
    refine en_segs [(285, .iload_n 1, [])] (by decide +kernel) (y := (286, [some (.ref a0), some (.int x1), some (.int x2), some (.int x3), some (.long y4), none, some (.int x6), some (.int x7), some (.long (((v25 : Int32).toInt64) * (v26 - v27))), none], [.int x1, .ref (aP d 6 5 (cR r29.1 0 a0)), .int v34, .int x7, .ref (aP d 6 11 (cR r29.1 0 a0))], h)) rfl ?_
    obtain ⟨v35, hv35, hF⟩ := ob_some hF
    refine en_iald (by decide +kernel : u_at kl_5 286 = some (.iaload, [])) hW k30 rfl (by decide) hv35 ?_
    refine en_segs [(287, .isub, [])] (by decide +kernel) (y := (288, [some (.ref a0), some (.int x1), some (.int x2), some (.int x3), some (.long y4), none, some (.int x6), some (.int x7), some (.long (((v25 : Int32).toInt64) * (v26 - v27))), none], [.int (v34 - v35), .int x7, .ref (aP d 6 11 (cR r29.1 0 a0))], h)) rfl ?_
    obtain ⟨c6_36, hc6_36, hF⟩ := ob_some hF
    refine en_iast (by decide +kernel : u_at kl_5 288 = some (.iastore, [])) hW k30 rfl (by decide) hc6_36 (fun h hW => ?_)
    have hW : HW (mkw r29.1 c1 c2 c3 c4 c5 c6_36 c7 c8 c9 c10 c11 c12 r29.2.2) d h := hW
    refine en_segs [(289, .iinc 7 1, []), (292, .goto (-258), [34])] (by decide +kernel) (y := (34, [some (.ref a0), some (.int x1), some (.int x2), some (.int x3), some (.long y4), none, some (.int x6), some (.int (x7 + 1)), some (.long (((v25 : Int32).toInt64) * (v26 - v27))), none], [], h)) rfl ?_
    refine en_fg (fg_k (fg_k (fg_k (fg_k (fg_k (fg_k (fg_k (fg_k (fg_d (fg_k fg_0)))))))))) ?_
    exact (ih _ _ _ _ _ _ _ _ hF).1 _ _ _ _ _ _ rfl rfl rfl rfl  _ hW _ hQ
def A_5 (R_5 : Cl → Cl → Cl → Ad → Nat → Int32 → Int32 → Int32 → Int64 → Option (Cl × Cl × Cl)) (c0 : Cl) (c6 : Cl) (c13 : Cl) (d : Ad) (a0 : Nat) (p1 : Int32) (p2 : Int32) (p3 : Int32) (p4 : Int64) : Option (Cl × Cl × Cl) :=
  if p1 < (cI c6 1 (cR c0 0 a0)) then
  ald (cA c6 10 (cR c0 0 a0)) 6 p1 >>= fun v3 =>
  G_5 R_5 d a0 0 [p1, p2, p3, v3, 0] [p4] [] c0 c6 c13
  else
  F_6 c0 c6 c13 d a0 p2 p3 p4 >>= fun r4 =>
  some (r4.1, c6, r4.2)
set_option maxRecDepth 100000 in
set_option maxHeartbeats 4000000 in
/-- HeadCounts$Crossing.cross -/
theorem a_5 {D : Nat} {R_5 : Cl → Cl → Cl → Ad → Nat → Int32 → Int32 → Int32 → Int64 → Option (Cl × Cl × Cl)} (hR_5 : ∀ {c0 c1 c2 c3 c4 c5 c6 c7 c8 c9 c10 c11 c12 c13 : Cl} {d : Ad} {h : UH} {a0 : Nat} {p1 : Int32} {p2 : Int32} {p3 : Int32} {p4 : Int64} {r : (Cl × Cl × Cl)}, HW (mkw c0 c1 c2 c3 c4 c5 c6 c7 c8 c9 c10 c11 c12 c13) d h → aK d a0 = (0, 0, 0) → R_5 c0 c6 c13 d a0 p1 p2 p3 p4 = some r → ∃ q, EX D 5 [.ref a0, .int p1, .int p2, .int p3, .long p4] h q ∧ q.1 = none ∧ HW (mkw r.1 c1 c2 c3 c4 c5 r.2.1 c7 c8 c9 c10 c11 c12 r.2.2) d q.2) {c0 c1 c2 c3 c4 c5 c6 c7 c8 c9 c10 c11 c12 c13 : Cl} {d : Ad} {h : UH} {a0 : Nat} {p1 : Int32} {p2 : Int32} {p3 : Int32} {p4 : Int64} {r : (Cl × Cl × Cl)} (hD : 5 ≤ D + 1) (hW : HW (mkw c0 c1 c2 c3 c4 c5 c6 c7 c8 c9 c10 c11 c12 c13) d h) (ha0 : aK d a0 = (0, 0, 0)) (hF : A_5 R_5 c0 c6 c13 d a0 p1 p2 p3 p4 = some r) : ∃ q, EX (D + 1) 5 [.ref a0, .int p1, .int p2, .int p3, .long p4] h q ∧ q.1 = none ∧ HW (mkw r.1 c1 c2 c3 c4 c5 r.2.1 c7 c8 c9 c10 c11 c12 r.2.2) d q.2 := by
  unfold A_5 at hF
  refine ex_in (kl := kl_5) (nL := 10) rfl (by decide +kernel) (Nat.le_of_ble_eq_true rfl) ?_
  obtain ⟨QQ, hQQ⟩ : ∃ QQ : UR → Prop, QQ = (fun q : UR => q.1 = none ∧ HW (mkw r.1 c1 c2 c3 c4 c5 r.2.1 c7 c8 c9 c10 c11 c12 r.2.2) d q.2) := ⟨_, rfl⟩
  rw [← hQQ]
  have hQ : ∀ h' : UH, HW (mkw r.1 c1 c2 c3 c4 c5 r.2.1 c7 c8 c9 c10 c11 c12 r.2.2) d h' → QQ (none, h') := fun h' p => by rw [hQQ]; exact ⟨rfl, p⟩
  clear hQQ
  show Ends (EX D) (u_at kl_5) (0, [some (.ref a0), some (.int p1), some (.int p2), some (.int p3), some (.long p4), none, none, none, none, none], [], h) QQ
  refine en_segs [(0, .iload_n 1, []), (1, .aload_n 0, [])] (by decide +kernel) (y := (2, [some (.ref a0), some (.int p1), some (.int p2), some (.int p3), some (.long p4), none, none, none, none, none], [.ref a0, .int p1], h)) rfl ?_
  have k1 : aK d (cR c0 0 a0) = (0, 6, 0) := wf_obj hW ha0 (by decide) rfl
  refine en_get (by decide +kernel : u_at kl_5 2 = some (.getfield 9, [0, 0])) hW ha0 (by decide) rfl ?_
  refine en_get (by decide +kernel : u_at kl_5 5 = some (.getfield 57, [6, 1])) hW k1 (by decide) rfl ?_
  refine en_ic_lt (by decide +kernel : u_at kl_5 8 = some (.if_icmp .lt 12, [20])) (fun b2 => ?_) (fun b2 => ?_)
  · replace hF := i_pos b2 hF
    refine en_segs [(20, .aload_n 0, [])] (by decide +kernel) (y := (21, [some (.ref a0), some (.int p1), some (.int p2), some (.int p3), some (.long p4), none, none, none, none, none], [.ref a0], h)) rfl ?_
    refine en_get (by decide +kernel : u_at kl_5 21 = some (.getfield 9, [0, 0])) hW ha0 (by decide) rfl ?_
    refine en_get (by decide +kernel : u_at kl_5 24 = some (.getfield 81, [6, 10])) hW k1 (by decide) rfl ?_
    refine en_segs [(27, .iload_n 1, [])] (by decide +kernel) (y := (28, [some (.ref a0), some (.int p1), some (.int p2), some (.int p3), some (.long p4), none, none, none, none, none], [.int p1, .ref (aP d 6 10 (cR c0 0 a0))], h)) rfl ?_
    obtain ⟨v3, hv3, hF⟩ := ob_some hF
    refine en_iald (by decide +kernel : u_at kl_5 28 = some (.iaload, [])) hW k1 rfl (by decide) hv3 ?_
    refine en_segs [(29, .istore 6, []), (31, .iconst 0, []), (32, .istore 7, [])] (by decide +kernel) (y := (34, [some (.ref a0), some (.int p1), some (.int p2), some (.int p3), some (.long p4), none, some (.int v3), some (.int 0), none, none], [], h)) rfl ?_
    exact (g_5 (D := D) hR_5 hD ha0 _ _ _ _ _ _ _ _ hF).1 _ _ _ _ _ _ rfl rfl rfl rfl  _ hW _ hQ
  · replace hF := i_neg b2 hF
    refine en_segs [(11, .aload_n 0, []), (12, .iload_n 2, []), (13, .iload_n 3, []), (14, .lload 4, [])] (by decide +kernel) (y := (16, [some (.ref a0), some (.int p1), some (.int p2), some (.int p3), some (.long p4), none, none, none, none, none], [.long p4, .int p3, .int p2, .ref a0], h)) rfl ?_
    obtain ⟨r4, hr4, hF⟩ := ob_some hF
    refine en_vv (r := []) (by decide +kernel : u_at kl_5 16 = some (.invokevirtual 103, [6, 3, 0])) hW ha0 rfl rfl (Nat.le_of_ble_eq_true rfl) (e_6 (D := D) (by omega) hW ha0 hr4) (fun h hW => ?_)
    have hW : HW (mkw r4.1 c1 c2 c3 c4 c5 c6 c7 c8 c9 c10 c11 c12 r4.2) d h := hW
    obtain rfl := Option.some.inj hF
    exact en_ret (by decide +kernel : u_at kl_5 19 = some (.return_, [])) rfl (hQ _ hW)
def FR_5 (n : Nat) : (Cl → Cl → Cl → Ad → Nat → Int32 → Int32 → Int32 → Int64 → Option (Cl × Cl × Cl)) := match n with
  | 0 => fun _ _ _ _ _ _ _ _ _ => none
  | n + 1 => A_5 ((FR_5 n))
theorem fr_5 : ∀ (n : Nat) {D : Nat}, n + 5 ≤ D → (∀ {c0 c1 c2 c3 c4 c5 c6 c7 c8 c9 c10 c11 c12 c13 : Cl} {d : Ad} {h : UH} {a0 : Nat} {p1 : Int32} {p2 : Int32} {p3 : Int32} {p4 : Int64} {r : (Cl × Cl × Cl)}, HW (mkw c0 c1 c2 c3 c4 c5 c6 c7 c8 c9 c10 c11 c12 c13) d h → aK d a0 = (0, 0, 0) → ((FR_5 n)) c0 c6 c13 d a0 p1 p2 p3 p4 = some r → ∃ q, EX D 5 [.ref a0, .int p1, .int p2, .int p3, .long p4] h q ∧ q.1 = none ∧ HW (mkw r.1 c1 c2 c3 c4 c5 r.2.1 c7 c8 c9 c10 c11 c12 r.2.2) d q.2) := by
  intro n
  induction n with
  | zero =>
    intro D hD
    exact (by intros; rename_i hF; exact nomatch hF)
  | succ n ih =>
    intro D hD
    obtain ⟨D, rfl⟩ : ∃ E, D = E + 1 := ⟨D - 1, by omega⟩
    exact (fun hW f0 hF => a_5 (ih (D := D) (by omega)) (by omega) hW f0 hF)
def F_5 : Cl → Cl → Cl → Ad → Nat → Int32 → Int32 → Int32 → Int64 → Option (Cl × Cl × Cl) := (FR_5 40)
theorem e_5 {D : Nat} (hD : 45 ≤ D) : ∀ {c0 c1 c2 c3 c4 c5 c6 c7 c8 c9 c10 c11 c12 c13 : Cl} {d : Ad} {h : UH} {a0 : Nat} {p1 : Int32} {p2 : Int32} {p3 : Int32} {p4 : Int64} {r : (Cl × Cl × Cl)}, HW (mkw c0 c1 c2 c3 c4 c5 c6 c7 c8 c9 c10 c11 c12 c13) d h → aK d a0 = (0, 0, 0) → F_5 c0 c6 c13 d a0 p1 p2 p3 p4 = some r → ∃ q, EX D 5 [.ref a0, .int p1, .int p2, .int p3, .long p4] h q ∧ q.1 = none ∧ HW (mkw r.1 c1 c2 c3 c4 c5 r.2.1 c7 c8 c9 c10 c11 c12 r.2.2) d q.2 := fr_5 40 hD
def F_2 (c0 : Cl) (c1 : Cl) (c6 : Cl) (c8 : Cl) (c13 : Cl) (d : Ad) (a0 : Nat) (a1 : Nat) (p2 : Int32) (p3 : Int32) : Option (Cl × Cl × Cl) :=
  F_1 c0 c1 c6 c8 a0 a1 p2 p3 >>= fun r1 =>
  some (sI r1.1 7 a0 0) >>= fun c0_2 =>
  some (sI c0_2 6 a0 (cI r1.2 1 (cR c0_2 0 a0))) >>= fun c0_4 =>
  some (sI c0_4 3 a0 (cI r1.2 3 (cR c0_4 0 a0))) >>= fun c0_6 =>
  F_5 c0_6 r1.2 c13 d a0 0 (cI r1.2 3 (cR c0_6 0 a0)) 0 (cJ c0_6 9 a0) >>= fun r8 =>
  some (r8.1, r8.2.1, r8.2.2)
set_option maxRecDepth 100000 in
set_option maxHeartbeats 4000000 in
/-- HeadCounts$Crossing.seekSecret -/
theorem e_2 {D : Nat} {c0 c1 c2 c3 c4 c5 c6 c7 c8 c9 c10 c11 c12 c13 : Cl} {d : Ad} {h : UH} {a0 : Nat} {a1 : Nat} {p2 : Int32} {p3 : Int32} {r : (Cl × Cl × Cl)} (hD : 46 ≤ D) (hW : HW (mkw c0 c1 c2 c3 c4 c5 c6 c7 c8 c9 c10 c11 c12 c13) d h) (ha0 : aK d a0 = (0, 0, 0)) (ha1 : aK d a1 = (0, 8, 0)) (hF : F_2 c0 c1 c6 c8 c13 d a0 a1 p2 p3 = some r) : ∃ q, EX D 2 [.ref a0, .ref a1, .int p2, .int p3] h q ∧ q.1 = none ∧ HW (mkw r.1 c1 c2 c3 c4 c5 r.2.1 c7 c8 c9 c10 c11 c12 r.2.2) d q.2 := by
  obtain ⟨D, rfl⟩ : ∃ E, D = E + 1 := ⟨D - 1, by omega⟩
  unfold F_2 at hF
  refine ex_in (kl := kl_2) (nL := 4) rfl (by decide +kernel) (Nat.le_of_ble_eq_true rfl) ?_
  obtain ⟨QQ, hQQ⟩ : ∃ QQ : UR → Prop, QQ = (fun q : UR => q.1 = none ∧ HW (mkw r.1 c1 c2 c3 c4 c5 r.2.1 c7 c8 c9 c10 c11 c12 r.2.2) d q.2) := ⟨_, rfl⟩
  rw [← hQQ]
  have hQ : ∀ h' : UH, HW (mkw r.1 c1 c2 c3 c4 c5 r.2.1 c7 c8 c9 c10 c11 c12 r.2.2) d h' → QQ (none, h') := fun h' p => by rw [hQQ]; exact ⟨rfl, p⟩
  clear hQQ
  show Ends (EX D) (u_at kl_2) (0, [some (.ref a0), some (.ref a1), some (.int p2), some (.int p3)], [], h) QQ
  refine en_segs [(0, .aload_n 0, []), (1, .aload_n 1, []), (2, .iload_n 2, []), (3, .iload_n 3, [])] (by decide +kernel) (y := (4, [some (.ref a0), some (.ref a1), some (.int p2), some (.int p3)], [.int p3, .int p2, .ref a1, .ref a0], h)) rfl ?_
  obtain ⟨r1, hr1, hF⟩ := ob_some hF
  refine en_vv (r := []) (by decide +kernel : u_at kl_2 4 = some (.invokevirtual 50, [1, 3, 0])) hW ha0 rfl rfl (Nat.le_of_ble_eq_true rfl) (e_1 (D := D) (by omega) hW ha0 ha1 hr1) (fun h hW => ?_)
  have hW : HW (mkw r1.1 c1 c2 c3 c4 c5 r1.2 c7 c8 c9 c10 c11 c12 c13) d h := hW
  refine en_segs [(7, .aload_n 0, []), (8, .iconst 0, [])] (by decide +kernel) (y := (9, [some (.ref a0), some (.ref a1), some (.int p2), some (.int p3)], [.int 0, .ref a0], h)) rfl ?_
  obtain ⟨c0_2, hc0_2, hF⟩ := ob_some hF
  refine en_putI (by decide +kernel : u_at kl_2 9 = some (.putfield 54, [0, 7, 2])) hW ha0 rfl (by decide) rfl (fun h hW => ?_)
  have hW : HW (mkw c0_2 c1 c2 c3 c4 c5 r1.2 c7 c8 c9 c10 c11 c12 c13) d h := by rw [← Option.some.inj hc0_2]; exact hW
  refine en_segs [(12, .aload_n 0, []), (13, .aload_n 0, [])] (by decide +kernel) (y := (14, [some (.ref a0), some (.ref a1), some (.int p2), some (.int p3)], [.ref a0, .ref a0], h)) rfl ?_
  have k3 : aK d (cR c0_2 0 a0) = (0, 6, 0) := wf_obj hW ha0 (by decide) rfl
  refine en_get (by decide +kernel : u_at kl_2 14 = some (.getfield 9, [0, 0])) hW ha0 (by decide) rfl ?_
  refine en_get (by decide +kernel : u_at kl_2 17 = some (.getfield 57, [6, 1])) hW k3 (by decide) rfl ?_
  obtain ⟨c0_4, hc0_4, hF⟩ := ob_some hF
  refine en_putI (by decide +kernel : u_at kl_2 20 = some (.putfield 60, [0, 6, 0])) hW ha0 rfl (by decide) rfl (fun h hW => ?_)
  have hW : HW (mkw c0_4 c1 c2 c3 c4 c5 r1.2 c7 c8 c9 c10 c11 c12 c13) d h := by rw [← Option.some.inj hc0_4]; exact hW
  refine en_segs [(23, .aload_n 0, []), (24, .aload_n 0, [])] (by decide +kernel) (y := (25, [some (.ref a0), some (.ref a1), some (.int p2), some (.int p3)], [.ref a0, .ref a0], h)) rfl ?_
  have k5 : aK d (cR c0_4 0 a0) = (0, 6, 0) := wf_obj hW ha0 (by decide) rfl
  refine en_get (by decide +kernel : u_at kl_2 25 = some (.getfield 9, [0, 0])) hW ha0 (by decide) rfl ?_
  refine en_get (by decide +kernel : u_at kl_2 28 = some (.getfield 63, [6, 3])) hW k5 (by decide) rfl ?_
  obtain ⟨c0_6, hc0_6, hF⟩ := ob_some hF
  refine en_putI (by decide +kernel : u_at kl_2 31 = some (.putfield 66, [0, 3, 0])) hW ha0 rfl (by decide) rfl (fun h hW => ?_)
  have hW : HW (mkw c0_6 c1 c2 c3 c4 c5 r1.2 c7 c8 c9 c10 c11 c12 c13) d h := by rw [← Option.some.inj hc0_6]; exact hW
  refine en_segs [(34, .aload_n 0, []), (35, .iconst 0, []), (36, .aload_n 0, [])] (by decide +kernel) (y := (37, [some (.ref a0), some (.ref a1), some (.int p2), some (.int p3)], [.ref a0, .int 0, .ref a0], h)) rfl ?_
  have k7 : aK d (cR c0_6 0 a0) = (0, 6, 0) := wf_obj hW ha0 (by decide) rfl
  refine en_get (by decide +kernel : u_at kl_2 37 = some (.getfield 9, [0, 0])) hW ha0 (by decide) rfl ?_
  refine en_get (by decide +kernel : u_at kl_2 40 = some (.getfield 63, [6, 3])) hW k7 (by decide) rfl ?_
  refine en_segs [(43, .iconst 0, []), (44, .aload_n 0, [])] (by decide +kernel) (y := (45, [some (.ref a0), some (.ref a1), some (.int p2), some (.int p3)], [.ref a0, .int 0, .int (cI r1.2 3 (cR c0_6 0 a0)), .int 0, .ref a0], h)) rfl ?_
  refine en_get (by decide +kernel : u_at kl_2 45 = some (.getfield 36, [0, 9])) hW ha0 (by decide) rfl ?_
  obtain ⟨r8, hr8, hF⟩ := ob_some hF
  refine en_vv (r := []) (by decide +kernel : u_at kl_2 48 = some (.invokevirtual 69, [5, 4, 0])) hW ha0 rfl rfl (Nat.le_of_ble_eq_true rfl) (e_5 (D := D) (by omega) hW ha0 hr8) (fun h hW => ?_)
  have hW : HW (mkw r8.1 c1 c2 c3 c4 c5 r8.2.1 c7 c8 c9 c10 c11 c12 r8.2.2) d h := hW
  obtain rfl := Option.some.inj hF
  exact en_ret (by decide +kernel : u_at kl_2 51 = some (.return_, [])) rfl (hQ _ hW)
def G_4 (c1 : Cl) (c8 : Cl) (d : Ad) (a0 : Nat) (a1 : Nat) (lab : Nat) (xs : List Int32) (ys : List Int64) (zs : List Nat) (c0 : Cl) (c6 : Cl) (c13 : Cl) : Option (Cl × Cl × Cl × Ad) := match lab, xs, ys, zs with
  | 0, [x4, x5, x6], [], [] =>
    if 1000 ≤ x6 then
    G_4 c1 c8 d a0 a1 1 [x4] [] [] c0 c6 c13
    else
    if (cI c0 10 a0) ≤ x6 then
    G_4 c1 c8 d a0 a1 1 [x4] [] [] c0 c6 c13
    else
    if (cI c0 8 a0) = 0 then
    ((if x6 = x5 then
    some (x4 + 1, cI c0 10 a0)
    else
    some (x4, x5)) : Option (Int32 × Int32)) >>= fun (t17 : Int32 × Int32) =>
    ald (cA c13 0 (cR c6 14 (cR c0 0 a0))) (aN d (cR c6 14 (cR c0 0 a0))) x6 >>= fun v21 =>
    ldl (cB c13 0 (cR c6 12 (cR c0 0 a0))) (aN d (cR c6 12 (cR c0 0 a0))) v21 >>= fun v23 =>
    some (sI c0 11 a0 (((v23 : Int64).toInt32) - 1)) >>= fun c0_24 =>
    F_57 c6 (cR c0_24 0 a0) v21 >>= fun r26 =>
    F_5 c0_24 r26 c13 d a0 0 v21 0 (cJ c0_24 9 a0) >>= fun r27 =>
    G_4 c1 c8 d a0 a1 0 [t17.1, t17.2, x6 + 1] [] [] r27.1 r27.2.1 r27.2.2
    else
    G_4 c1 c8 d a0 a1 1 [x4] [] [] c0 c6 c13
  | 1, [x4], [], [] =>
    if (cI c0 8 a0) = 0 then
    G_4 c1 c8 d a0 a1 2 [] [] [] c0 c6 c13
    else
    ((if (cI c0 1 a0) = (-3) then
    some (-3)
    else
    some x4) : Option (Int32)) >>= fun (t30 : Int32) =>
    some (sI c0 2 a0 t30) >>= fun c0_32 =>
    G_4 c1 c8 d a0 a1 2 [] [] [] c0_32 c6 c13
  | 2, [], [], [] =>
    F_56 c6 c13 d (cR c0 0 a0) (cI c0 10 a0) >>= fun r35 =>
    some (c0, c6, r35, d)
  | _, _, _, _ => none
partial_fixpoint
set_option maxRecDepth 100000 in
set_option maxHeartbeats 4000000 in
theorem g_4 {D : Nat} (hD : 46 ≤ D + 1) {c1 c2 c3 c4 c5 c7 c8 c9 c10 c11 c12 : Cl} {d : Ad} {a0 : Nat} {a1 : Nat} (ha0 : aK d a0 = (0, 0, 0)) (ha1 : aK d a1 = (0, 8, 0)) : ∀ (lab : Nat) (xs : List Int32) (ys : List Int64) (zs : List Nat) (c0 : Cl) (c6 : Cl) (c13 : Cl) (r : (Cl × Cl × Cl × Ad)), G_4 c1 c8 d a0 a1 lab xs ys zs c0 c6 c13 = some r →
    (∀ (x4 : Int32) (x5 : Int32) (x6 : Int32), lab = 0 → xs = [x4, x5, x6] → ys = [] → zs = [] → ∀ h : UH, HW (mkw c0 c1 c2 c3 c4 c5 c6 c7 c8 c9 c10 c11 c12 c13) d h → ∀ QQ : UR → Prop, (∀ h' : UH, HX d (mkw r.1 c1 c2 c3 c4 c5 r.2.1 c7 c8 c9 c10 c11 c12 r.2.2.1) r.2.2.2 h' → QQ (none, h')) → Ends (EX D) (u_at kl_4) (65, [some (.ref a0), none, none, none, some (.int x4), some (.int x5), some (.int x6), none], [], h) QQ) ∧
    (∀ (x4 : Int32), lab = 1 → xs = [x4] → ys = [] → zs = [] → ∀ h : UH, HW (mkw c0 c1 c2 c3 c4 c5 c6 c7 c8 c9 c10 c11 c12 c13) d h → ∀ QQ : UR → Prop, (∀ h' : UH, HX d (mkw r.1 c1 c2 c3 c4 c5 r.2.1 c7 c8 c9 c10 c11 c12 r.2.2.1) r.2.2.2 h' → QQ (none, h')) → Ends (EX D) (u_at kl_4) (161, [some (.ref a0), none, none, none, some (.int x4), none, none, none], [], h) QQ) ∧
    (∀ (_ : Unit), lab = 2 → xs = [] → ys = [] → zs = [] → ∀ h : UH, HW (mkw c0 c1 c2 c3 c4 c5 c6 c7 c8 c9 c10 c11 c12 c13) d h → ∀ QQ : UR → Prop, (∀ h' : UH, HX d (mkw r.1 c1 c2 c3 c4 c5 r.2.1 c7 c8 c9 c10 c11 c12 r.2.2.1) r.2.2.2 h' → QQ (none, h')) → Ends (EX D) (u_at kl_4) (188, [some (.ref a0), none, none, none, none, none, none, none], [], h) QQ) := by
  refine G_4.partial_correctness _ _ _ _ _ (motive := fun lab xs ys zs c0 c6 c13 r =>
    (∀ (x4 : Int32) (x5 : Int32) (x6 : Int32), lab = 0 → xs = [x4, x5, x6] → ys = [] → zs = [] → ∀ h : UH, HW (mkw c0 c1 c2 c3 c4 c5 c6 c7 c8 c9 c10 c11 c12 c13) d h → ∀ QQ : UR → Prop, (∀ h' : UH, HX d (mkw r.1 c1 c2 c3 c4 c5 r.2.1 c7 c8 c9 c10 c11 c12 r.2.2.1) r.2.2.2 h' → QQ (none, h')) → Ends (EX D) (u_at kl_4) (65, [some (.ref a0), none, none, none, some (.int x4), some (.int x5), some (.int x6), none], [], h) QQ) ∧
    (∀ (x4 : Int32), lab = 1 → xs = [x4] → ys = [] → zs = [] → ∀ h : UH, HW (mkw c0 c1 c2 c3 c4 c5 c6 c7 c8 c9 c10 c11 c12 c13) d h → ∀ QQ : UR → Prop, (∀ h' : UH, HX d (mkw r.1 c1 c2 c3 c4 c5 r.2.1 c7 c8 c9 c10 c11 c12 r.2.2.1) r.2.2.2 h' → QQ (none, h')) → Ends (EX D) (u_at kl_4) (161, [some (.ref a0), none, none, none, some (.int x4), none, none, none], [], h) QQ) ∧
    (∀ (_ : Unit), lab = 2 → xs = [] → ys = [] → zs = [] → ∀ h : UH, HW (mkw c0 c1 c2 c3 c4 c5 c6 c7 c8 c9 c10 c11 c12 c13) d h → ∀ QQ : UR → Prop, (∀ h' : UH, HX d (mkw r.1 c1 c2 c3 c4 c5 r.2.1 c7 c8 c9 c10 c11 c12 r.2.2.1) r.2.2.2 h' → QQ (none, h')) → Ends (EX D) (u_at kl_4) (188, [some (.ref a0), none, none, none, none, none, none, none], [], h) QQ)) ?_
  intro G ih lab xs ys zs c0 c6 c13 r hF
  refine ⟨?_, ?_, ?_⟩
  · intro x4 x5 x6 e1 e2 e3 e4 h hW QQ hQ
    subst e1 e2 e3 e4
    refine en_segs [(65, .iload 6, []), (67, .sipush 1000, [])] (by decide +kernel) (y := (70, [some (.ref a0), none, none, none, some (.int x4), some (.int x5), some (.int x6), none], [.int 1000, .int x6], h)) rfl ?_
    refine en_ic_ge (by decide +kernel : u_at kl_4 70 = some (.if_icmp .ge 91, [161])) (fun b14 => ?_) (fun b14 => ?_)
    · replace hF := i_pos b14 hF
      refine en_fg (fg_k (fg_k (fg_k (fg_k (fg_k (fg_d (fg_d (fg_k fg_0)))))))) ?_
      exact (ih _ _ _ _ _ _ _ _ hF).2.1 _ rfl rfl rfl rfl  _ hW _ hQ
    · replace hF := i_neg b14 hF
      refine en_segs [(73, .iload 6, []), (75, .aload_n 0, [])] (by decide +kernel) (y := (76, [some (.ref a0), none, none, none, some (.int x4), some (.int x5), some (.int x6), none], [.ref a0, .int x6], h)) rfl ?_
      refine en_get (by decide +kernel : u_at kl_4 76 = some (.getfield 87, [0, 10])) hW ha0 (by decide) rfl ?_
      refine en_ic_ge (by decide +kernel : u_at kl_4 79 = some (.if_icmp .ge 82, [161])) (fun b15 => ?_) (fun b15 => ?_)
      · replace hF := i_pos b15 hF
        refine en_fg (fg_k (fg_k (fg_k (fg_k (fg_k (fg_d (fg_d (fg_k fg_0)))))))) ?_
        exact (ih _ _ _ _ _ _ _ _ hF).2.1 _ rfl rfl rfl rfl  _ hW _ hQ
      · replace hF := i_neg b15 hF
        refine en_segs [(82, .aload_n 0, [])] (by decide +kernel) (y := (83, [some (.ref a0), none, none, none, some (.int x4), some (.int x5), some (.int x6), none], [.ref a0], h)) rfl ?_
        refine en_get (by decide +kernel : u_at kl_4 83 = some (.getfield 40, [0, 8])) hW ha0 (by decide) rfl ?_
        refine en_if_ne (by decide +kernel : u_at kl_4 86 = some (.ifCond .ne 75, [161])) (fun b16 => ?_) (fun b16 => ?_)
        · replace hF := i_pos b16 hF
          refine en_segs [(89, .iload 6, []), (91, .iload 5, [])] (by decide +kernel) (y := (93, [some (.ref a0), none, none, none, some (.int x4), some (.int x5), some (.int x6), none], [.int x5, .int x6], h)) rfl ?_
          obtain ⟨t17, hX, hK⟩ := ob_some hF
          have j18 : ∀ h : UH, HW (mkw c0 c1 c2 c3 c4 c5 c6 c7 c8 c9 c10 c11 c12 c13) d h → Ends (EX D) (u_at kl_4) (105, [some (.ref a0), none, none, none, some (.int t17.1), some (.int t17.2), some (.int x6), none], [], h) QQ := by
            intro h hW
            have hF := hK
            refine en_segs [(105, .aload_n 0, [])] (by decide +kernel) (y := (106, [some (.ref a0), none, none, none, some (.int t17.1), some (.int t17.2), some (.int x6), none], [.ref a0], h)) rfl ?_
            have k19 : aK d (cR c0 0 a0) = (0, 6, 0) := wf_obj hW ha0 (by decide) rfl
            refine en_get (by decide +kernel : u_at kl_4 106 = some (.getfield 9, [0, 0])) hW ha0 (by decide) rfl ?_
            have k20 : aK d (cR c6 14 (cR c0 0 a0)) = (2, 1, 0) := wf_free hW k19 (by decide) rfl
            refine en_get (by decide +kernel : u_at kl_4 109 = some (.getfield 90, [6, 14])) hW k19 (by decide) rfl ?_
            refine en_segs [(112, .iload 6, [])] (by decide +kernel) (y := (114, [some (.ref a0), none, none, none, some (.int t17.1), some (.int t17.2), some (.int x6), none], [.int x6, .ref (cR c6 14 (cR c0 0 a0))], h)) rfl ?_
            obtain ⟨v21, hv21, hF⟩ := ob_some hF
            refine en_fiald (by decide +kernel : u_at kl_4 114 = some (.iaload, [])) hW k20 hv21 ?_
            refine en_segs [(115, .istore 7, []), (117, .aload_n 0, []), (118, .aload_n 0, [])] (by decide +kernel) (y := (119, [some (.ref a0), none, none, none, some (.int t17.1), some (.int t17.2), some (.int x6), some (.int v21)], [.ref a0, .ref a0], h)) rfl ?_
            refine en_get (by decide +kernel : u_at kl_4 119 = some (.getfield 9, [0, 0])) hW ha0 (by decide) rfl ?_
            have k22 : aK d (cR c6 12 (cR c0 0 a0)) = (2, 2, 0) := wf_free hW k19 (by decide) rfl
            refine en_get (by decide +kernel : u_at kl_4 122 = some (.getfield 93, [6, 12])) hW k19 (by decide) rfl ?_
            refine en_segs [(125, .iload 7, [])] (by decide +kernel) (y := (127, [some (.ref a0), none, none, none, some (.int t17.1), some (.int t17.2), some (.int x6), some (.int v21)], [.int v21, .ref (cR c6 12 (cR c0 0 a0)), .ref a0], h)) rfl ?_
            obtain ⟨v23, hv23, hF⟩ := ob_some hF
            refine en_flald (by decide +kernel : u_at kl_4 127 = some (.laload, [])) hW k22 hv23 ?_
            refine en_segs [(128, .l2i, []), (129, .iconst 1, []), (130, .isub, [])] (by decide +kernel) (y := (131, [some (.ref a0), none, none, none, some (.int t17.1), some (.int t17.2), some (.int x6), some (.int v21)], [.int (((v23 : Int64).toInt32) - 1), .ref a0], h)) rfl ?_
            obtain ⟨c0_24, hc0_24, hF⟩ := ob_some hF
            refine en_putI (by decide +kernel : u_at kl_4 131 = some (.putfield 97, [0, 11, 0])) hW ha0 rfl (by decide) rfl (fun h hW => ?_)
            have hW : HW (mkw c0_24 c1 c2 c3 c4 c5 c6 c7 c8 c9 c10 c11 c12 c13) d h := by rw [← Option.some.inj hc0_24]; exact hW
            refine en_segs [(134, .aload_n 0, [])] (by decide +kernel) (y := (135, [some (.ref a0), none, none, none, some (.int t17.1), some (.int t17.2), some (.int x6), some (.int v21)], [.ref a0], h)) rfl ?_
            have k25 : aK d (cR c0_24 0 a0) = (0, 6, 0) := wf_obj hW ha0 (by decide) rfl
            refine en_get (by decide +kernel : u_at kl_4 135 = some (.getfield 9, [0, 0])) hW ha0 (by decide) rfl ?_
            refine en_segs [(138, .iload 7, [])] (by decide +kernel) (y := (140, [some (.ref a0), none, none, none, some (.int t17.1), some (.int t17.2), some (.int x6), some (.int v21)], [.int v21, .ref (cR c0_24 0 a0)], h)) rfl ?_
            obtain ⟨r26, hr26, hF⟩ := ob_some hF
            refine en_vv (r := []) (by decide +kernel : u_at kl_4 140 = some (.invokevirtual 73, [57, 1, 6])) hW k25 rfl rfl (Nat.le_of_ble_eq_true rfl) (e_57 (D := D) (by omega) hW k25 hr26) (fun h hW => ?_)
            have hW : HW (mkw c0_24 c1 c2 c3 c4 c5 r26 c7 c8 c9 c10 c11 c12 c13) d h := hW
            refine en_segs [(143, .aload_n 0, []), (144, .iconst 0, []), (145, .iload 7, []), (147, .iconst 0, []), (148, .aload_n 0, [])] (by decide +kernel) (y := (149, [some (.ref a0), none, none, none, some (.int t17.1), some (.int t17.2), some (.int x6), some (.int v21)], [.ref a0, .int 0, .int v21, .int 0, .ref a0], h)) rfl ?_
            refine en_get (by decide +kernel : u_at kl_4 149 = some (.getfield 36, [0, 9])) hW ha0 (by decide) rfl ?_
            obtain ⟨r27, hr27, hF⟩ := ob_some hF
            refine en_vv (r := []) (by decide +kernel : u_at kl_4 152 = some (.invokevirtual 69, [5, 4, 0])) hW ha0 rfl rfl (Nat.le_of_ble_eq_true rfl) (e_5 (D := D) (by omega) hW ha0 hr27) (fun h hW => ?_)
            have hW : HW (mkw r27.1 c1 c2 c3 c4 c5 r27.2.1 c7 c8 c9 c10 c11 c12 r27.2.2) d h := hW
            refine en_segs [(155, .iinc 6 1, []), (158, .goto (-93), [65])] (by decide +kernel) (y := (65, [some (.ref a0), none, none, none, some (.int t17.1), some (.int t17.2), some (.int (x6 + 1)), some (.int v21)], [], h)) rfl ?_
            refine en_fg (fg_k (fg_k (fg_k (fg_k (fg_k (fg_k (fg_k (fg_d fg_0)))))))) ?_
            exact (ih _ _ _ _ _ _ _ _ hF).1 _ _ _ rfl rfl rfl rfl  _ hW _ hQ
          have hF := hX
          refine en_ic_ne (by decide +kernel : u_at kl_4 93 = some (.if_icmp .ne 12, [105])) (fun b28 => ?_) (fun b28 => ?_)
          · replace hF := i_pos b28 hF
            refine en_segs [(96, .iinc 4 1, []), (99, .aload_n 0, [])] (by decide +kernel) (y := (100, [some (.ref a0), none, none, none, some (.int (x4 + 1)), some (.int x5), some (.int x6), none], [.ref a0], h)) rfl ?_
            refine en_get (by decide +kernel : u_at kl_4 100 = some (.getfield 87, [0, 10])) hW ha0 (by decide) rfl ?_
            refine en_segs [(103, .istore 5, [])] (by decide +kernel) (y := (105, [some (.ref a0), none, none, none, some (.int (x4 + 1)), some (.int (cI c0 10 a0)), some (.int x6), none], [], h)) rfl ?_
            obtain rfl := Option.some.inj hF
            exact j18 _ hW
          · replace hF := i_neg b28 hF
            obtain rfl := Option.some.inj hF
            exact j18 _ hW
        · replace hF := i_neg b16 hF
          refine en_fg (fg_k (fg_k (fg_k (fg_k (fg_k (fg_d (fg_d (fg_k fg_0)))))))) ?_
          exact (ih _ _ _ _ _ _ _ _ hF).2.1 _ rfl rfl rfl rfl  _ hW _ hQ
  · intro x4 e1 e2 e3 e4 h hW QQ hQ
    subst e1 e2 e3 e4
    refine en_segs [(161, .aload_n 0, [])] (by decide +kernel) (y := (162, [some (.ref a0), none, none, none, some (.int x4), none, none, none], [.ref a0], h)) rfl ?_
    refine en_get (by decide +kernel : u_at kl_4 162 = some (.getfield 40, [0, 8])) hW ha0 (by decide) rfl ?_
    refine en_if_eq (by decide +kernel : u_at kl_4 165 = some (.ifCond .eq 23, [188])) (fun b29 => ?_) (fun b29 => ?_)
    · replace hF := i_pos b29 hF
      refine en_fg (fg_k (fg_k (fg_k (fg_k (fg_d (fg_k (fg_k (fg_k fg_0)))))))) ?_
      exact (ih _ _ _ _ _ _ _ _ hF).2.2 () rfl rfl rfl rfl  _ hW _ hQ
    · replace hF := i_neg b29 hF
      refine en_segs [(168, .aload_n 0, []), (169, .aload_n 0, [])] (by decide +kernel) (y := (170, [some (.ref a0), none, none, none, some (.int x4), none, none, none], [.ref a0, .ref a0], h)) rfl ?_
      refine en_get (by decide +kernel : u_at kl_4 170 = some (.getfield 44, [0, 1])) hW ha0 (by decide) rfl ?_
      refine en_segs [(173, .bipush (-3), [])] (by decide +kernel) (y := (175, [some (.ref a0), none, none, none, some (.int x4), none, none, none], [.int (-3), .int (cI c0 1 a0), .ref a0], h)) rfl ?_
      obtain ⟨t30, hX, hK⟩ := ob_some hF
      have j31 : ∀ h : UH, HW (mkw c0 c1 c2 c3 c4 c5 c6 c7 c8 c9 c10 c11 c12 c13) d h → Ends (EX D) (u_at kl_4) (185, [some (.ref a0), none, none, none, some (.int x4), none, none, none], [.int t30, .ref a0], h) QQ := by
        intro h hW
        have hF := hK
        obtain ⟨c0_32, hc0_32, hF⟩ := ob_some hF
        refine en_putI (by decide +kernel : u_at kl_4 185 = some (.putfield 47, [0, 2, 0])) hW ha0 rfl (by decide) rfl (fun h hW => ?_)
        have hW : HW (mkw c0_32 c1 c2 c3 c4 c5 c6 c7 c8 c9 c10 c11 c12 c13) d h := by rw [← Option.some.inj hc0_32]; exact hW
        refine en_fg (fg_k (fg_k (fg_k (fg_k (fg_d (fg_k (fg_k (fg_k fg_0)))))))) ?_
        exact (ih _ _ _ _ _ _ _ _ hF).2.2 () rfl rfl rfl rfl  _ hW _ hQ
      have hF := hX
      refine en_ic_ne (by decide +kernel : u_at kl_4 175 = some (.if_icmp .ne 8, [183])) (fun b33 => ?_) (fun b33 => ?_)
      · replace hF := i_pos b33 hF
        refine en_segs [(178, .bipush (-3), []), (180, .goto 5, [185])] (by decide +kernel) (y := (185, [some (.ref a0), none, none, none, some (.int x4), none, none, none], [.int (-3), .ref a0], h)) rfl ?_
        obtain rfl := Option.some.inj hF
        exact j31 _ hW
      · replace hF := i_neg b33 hF
        refine en_segs [(183, .iload 4, [])] (by decide +kernel) (y := (185, [some (.ref a0), none, none, none, some (.int x4), none, none, none], [.int x4, .ref a0], h)) rfl ?_
        obtain rfl := Option.some.inj hF
        exact j31 _ hW
  · intro _ e1 e2 e3 e4 h hW QQ hQ
    subst e1 e2 e3 e4
    refine en_segs [(188, .aload_n 0, [])] (by decide +kernel) (y := (189, [some (.ref a0), none, none, none, none, none, none, none], [.ref a0], h)) rfl ?_
    have k34 : aK d (cR c0 0 a0) = (0, 6, 0) := wf_obj hW ha0 (by decide) rfl
    refine en_get (by decide +kernel : u_at kl_4 189 = some (.getfield 9, [0, 0])) hW ha0 (by decide) rfl ?_
    refine en_segs [(192, .aload_n 0, [])] (by decide +kernel) (y := (193, [some (.ref a0), none, none, none, none, none, none, none], [.ref a0, .ref (cR c0 0 a0)], h)) rfl ?_
    refine en_get (by decide +kernel : u_at kl_4 193 = some (.getfield 87, [0, 10])) hW ha0 (by decide) rfl ?_
    obtain ⟨r35, hr35, hF⟩ := ob_some hF
    refine en_vv (r := []) (by decide +kernel : u_at kl_4 196 = some (.invokevirtual 100, [56, 1, 6])) hW k34 rfl rfl (Nat.le_of_ble_eq_true rfl) (e_56 (D := D) (by omega) hW k34 hr35) (fun h hW => ?_)
    have hW : HW (mkw c0 c1 c2 c3 c4 c5 c6 c7 c8 c9 c10 c11 c12 r35) d h := hW
    obtain rfl := Option.some.inj hF
    exact en_ret (by decide +kernel : u_at kl_4 199 = some (.return_, [])) rfl (hQ _ ⟨hW, Adx.rf⟩)
def F_4 (c0 : Cl) (c1 : Cl) (c6 : Cl) (c8 : Cl) (c13 : Cl) (d : Ad) (a0 : Nat) (a1 : Nat) (p2 : Int32) (p3 : Int32) : Option (Cl × Cl × Cl × Ad) :=
  F_1 c0 c1 c6 c8 a0 a1 p2 p3 >>= fun r1 =>
  ald (cA r1.2 10 (cR r1.1 0 a0)) 6 (cI r1.1 4 a0) >>= fun v3 =>
  if v3 = p3 then
  some (sI r1.1 2 a0 0) >>= fun c0_5 =>
  some (sI c0_5 1 a0 0) >>= fun c0_6 =>
  some (c0_6, r1.2, c13, d)
  else
  some (sI r1.1 7 a0 1) >>= fun c0_7 =>
  some (sI c0_7 6 a0 2) >>= fun c0_8 =>
  F_53 r1.2 c13 d (cR c0_8 0 a0) >>= fun r10 =>
  some (sI c0_8 10 a0 1) >>= fun c0_13 =>
  G_4 c1 c8 r10.2.2 a0 a1 0 [1, 1, 0] [] [] c0_13 r10.1 r10.2.1
set_option maxRecDepth 100000 in
set_option maxHeartbeats 4000000 in
/-- HeadCounts$Crossing.seekTheft -/
theorem e_4 {D : Nat} {c0 c1 c2 c3 c4 c5 c6 c7 c8 c9 c10 c11 c12 c13 : Cl} {d : Ad} {h : UH} {a0 : Nat} {a1 : Nat} {p2 : Int32} {p3 : Int32} {r : (Cl × Cl × Cl × Ad)} (hD : 46 ≤ D) (hW : HW (mkw c0 c1 c2 c3 c4 c5 c6 c7 c8 c9 c10 c11 c12 c13) d h) (ha0 : aK d a0 = (0, 0, 0)) (ha1 : aK d a1 = (0, 8, 0)) (hF : F_4 c0 c1 c6 c8 c13 d a0 a1 p2 p3 = some r) : ∃ q, EX D 4 [.ref a0, .ref a1, .int p2, .int p3] h q ∧ q.1 = none ∧ HX d (mkw r.1 c1 c2 c3 c4 c5 r.2.1 c7 c8 c9 c10 c11 c12 r.2.2.1) r.2.2.2 q.2 := by
  obtain ⟨D, rfl⟩ : ∃ E, D = E + 1 := ⟨D - 1, by omega⟩
  unfold F_4 at hF
  refine ex_in (kl := kl_4) (nL := 8) rfl (by decide +kernel) (Nat.le_of_ble_eq_true rfl) ?_
  obtain ⟨QQ, hQQ⟩ : ∃ QQ : UR → Prop, QQ = (fun q : UR => q.1 = none ∧ HX d (mkw r.1 c1 c2 c3 c4 c5 r.2.1 c7 c8 c9 c10 c11 c12 r.2.2.1) r.2.2.2 q.2) := ⟨_, rfl⟩
  rw [← hQQ]
  have hQ : ∀ h' : UH, HX d (mkw r.1 c1 c2 c3 c4 c5 r.2.1 c7 c8 c9 c10 c11 c12 r.2.2.1) r.2.2.2 h' → QQ (none, h') := fun h' p => by rw [hQQ]; exact ⟨rfl, p⟩
  clear hQQ
  show Ends (EX D) (u_at kl_4) (0, [some (.ref a0), some (.ref a1), some (.int p2), some (.int p3), none, none, none, none], [], h) QQ
  refine en_segs [(0, .aload_n 0, []), (1, .aload_n 1, []), (2, .iload_n 2, []), (3, .iload_n 3, [])] (by decide +kernel) (y := (4, [some (.ref a0), some (.ref a1), some (.int p2), some (.int p3), none, none, none, none], [.int p3, .int p2, .ref a1, .ref a0], h)) rfl ?_
  obtain ⟨r1, hr1, hF⟩ := ob_some hF
  refine en_vv (r := []) (by decide +kernel : u_at kl_4 4 = some (.invokevirtual 50, [1, 3, 0])) hW ha0 rfl rfl (Nat.le_of_ble_eq_true rfl) (e_1 (D := D) (by omega) hW ha0 ha1 hr1) (fun h hW => ?_)
  have hW : HW (mkw r1.1 c1 c2 c3 c4 c5 r1.2 c7 c8 c9 c10 c11 c12 c13) d h := hW
  refine en_segs [(7, .aload_n 0, [])] (by decide +kernel) (y := (8, [some (.ref a0), some (.ref a1), some (.int p2), some (.int p3), none, none, none, none], [.ref a0], h)) rfl ?_
  have k2 : aK d (cR r1.1 0 a0) = (0, 6, 0) := wf_obj hW ha0 (by decide) rfl
  refine en_get (by decide +kernel : u_at kl_4 8 = some (.getfield 9, [0, 0])) hW ha0 (by decide) rfl ?_
  refine en_get (by decide +kernel : u_at kl_4 11 = some (.getfield 81, [6, 10])) hW k2 (by decide) rfl ?_
  refine en_segs [(14, .aload_n 0, [])] (by decide +kernel) (y := (15, [some (.ref a0), some (.ref a1), some (.int p2), some (.int p3), none, none, none, none], [.ref a0, .ref (aP d 6 10 (cR r1.1 0 a0))], h)) rfl ?_
  refine en_get (by decide +kernel : u_at kl_4 15 = some (.getfield 25, [0, 4])) hW ha0 (by decide) rfl ?_
  obtain ⟨v3, hv3, hF⟩ := ob_some hF
  refine en_iald (by decide +kernel : u_at kl_4 18 = some (.iaload, [])) hW k2 rfl (by decide) hv3 ?_
  refine en_segs [(19, .iload_n 3, [])] (by decide +kernel) (y := (20, [some (.ref a0), some (.ref a1), some (.int p2), some (.int p3), none, none, none, none], [.int p3, .int v3], h)) rfl ?_
  refine en_ic_ne (by decide +kernel : u_at kl_4 20 = some (.if_icmp .ne 14, [34])) (fun b4 => ?_) (fun b4 => ?_)
  · replace hF := i_pos b4 hF
    refine en_segs [(23, .aload_n 0, []), (24, .iconst 0, [])] (by decide +kernel) (y := (25, [some (.ref a0), some (.ref a1), some (.int p2), some (.int p3), none, none, none, none], [.int 0, .ref a0], h)) rfl ?_
    obtain ⟨c0_5, hc0_5, hF⟩ := ob_some hF
    refine en_putI (by decide +kernel : u_at kl_4 25 = some (.putfield 47, [0, 2, 0])) hW ha0 rfl (by decide) rfl (fun h hW => ?_)
    have hW : HW (mkw c0_5 c1 c2 c3 c4 c5 r1.2 c7 c8 c9 c10 c11 c12 c13) d h := by rw [← Option.some.inj hc0_5]; exact hW
    refine en_segs [(28, .aload_n 0, []), (29, .iconst 0, [])] (by decide +kernel) (y := (30, [some (.ref a0), some (.ref a1), some (.int p2), some (.int p3), none, none, none, none], [.int 0, .ref a0], h)) rfl ?_
    obtain ⟨c0_6, hc0_6, hF⟩ := ob_some hF
    refine en_putI (by decide +kernel : u_at kl_4 30 = some (.putfield 44, [0, 1, 0])) hW ha0 rfl (by decide) rfl (fun h hW => ?_)
    have hW : HW (mkw c0_6 c1 c2 c3 c4 c5 r1.2 c7 c8 c9 c10 c11 c12 c13) d h := by rw [← Option.some.inj hc0_6]; exact hW
    obtain rfl := Option.some.inj hF
    exact en_ret (by decide +kernel : u_at kl_4 33 = some (.return_, [])) rfl (hQ _ ⟨hW, Adx.rf⟩)
  · replace hF := i_neg b4 hF
    refine en_segs [(34, .aload_n 0, []), (35, .iconst 1, [])] (by decide +kernel) (y := (36, [some (.ref a0), some (.ref a1), some (.int p2), some (.int p3), none, none, none, none], [.int 1, .ref a0], h)) rfl ?_
    obtain ⟨c0_7, hc0_7, hF⟩ := ob_some hF
    refine en_putI (by decide +kernel : u_at kl_4 36 = some (.putfield 54, [0, 7, 2])) hW ha0 rfl (by decide) rfl (fun h hW => ?_)
    have hW : HW (mkw c0_7 c1 c2 c3 c4 c5 r1.2 c7 c8 c9 c10 c11 c12 c13) d h := by rw [← Option.some.inj hc0_7]; exact hW
    refine en_segs [(39, .aload_n 0, []), (40, .iconst 2, [])] (by decide +kernel) (y := (41, [some (.ref a0), some (.ref a1), some (.int p2), some (.int p3), none, none, none, none], [.int 2, .ref a0], h)) rfl ?_
    obtain ⟨c0_8, hc0_8, hF⟩ := ob_some hF
    refine en_putI (by decide +kernel : u_at kl_4 41 = some (.putfield 60, [0, 6, 0])) hW ha0 rfl (by decide) rfl (fun h hW => ?_)
    have hW : HW (mkw c0_8 c1 c2 c3 c4 c5 r1.2 c7 c8 c9 c10 c11 c12 c13) d h := by rw [← Option.some.inj hc0_8]; exact hW
    refine en_segs [(44, .aload_n 0, [])] (by decide +kernel) (y := (45, [some (.ref a0), some (.ref a1), some (.int p2), some (.int p3), none, none, none, none], [.ref a0], h)) rfl ?_
    have k9 : aK d (cR c0_8 0 a0) = (0, 6, 0) := wf_obj hW ha0 (by decide) rfl
    refine en_get (by decide +kernel : u_at kl_4 45 = some (.getfield 9, [0, 0])) hW ha0 (by decide) rfl ?_
    obtain ⟨r10, hr10, hF⟩ := ob_some hF
    refine en_vv (r := []) (by decide +kernel : u_at kl_4 48 = some (.invokevirtual 84, [53, 0, 6])) hW k9 rfl rfl (Nat.le_of_ble_eq_true rfl) (e_53 (D := D) (by omega) hW k9 hr10) (fun h q => ?_)
    obtain ⟨hW, X11⟩ := q
    have ha0 := X11.o ha0
    have ha1 := X11.o ha1
    have k2 := X11.o k2
    have k9 := X11.o k9
    have A12 := X11
    have hW : HW (mkw c0_8 c1 c2 c3 c4 c5 r10.1 c7 c8 c9 c10 c11 c12 r10.2.1) r10.2.2 h := hW
    refine en_segs [(51, .aload_n 0, []), (52, .iconst 1, [])] (by decide +kernel) (y := (53, [some (.ref a0), some (.ref a1), some (.int p2), some (.int p3), none, none, none, none], [.int 1, .ref a0], h)) rfl ?_
    obtain ⟨c0_13, hc0_13, hF⟩ := ob_some hF
    refine en_putI (by decide +kernel : u_at kl_4 53 = some (.putfield 87, [0, 10, 0])) hW ha0 rfl (by decide) rfl (fun h hW => ?_)
    have hW : HW (mkw c0_13 c1 c2 c3 c4 c5 r10.1 c7 c8 c9 c10 c11 c12 r10.2.1) r10.2.2 h := by rw [← Option.some.inj hc0_13]; exact hW
    refine en_segs [(56, .iconst 1, []), (57, .istore 4, []), (59, .iconst 1, []), (60, .istore 5, []), (62, .iconst 0, []), (63, .istore 6, [])] (by decide +kernel) (y := (65, [some (.ref a0), some (.ref a1), some (.int p2), some (.int p3), some (.int 1), some (.int 1), some (.int 0), none], [], h)) rfl ?_
    refine en_fg (fg_k (fg_d (fg_d (fg_d (fg_k (fg_k (fg_k (fg_k fg_0)))))))) ?_
    exact (g_4 (D := D) hD ha0 ha1 _ _ _ _ _ _ _ _ hF).1 _ _ _ rfl rfl rfl rfl  _ hW _ (fun h' p => hQ h' ⟨p.1, A12.trans p.2⟩)
def G_45 (R_44 : Cl → Cl → Nat → Int32 → Option (Cl × Cl)) (R_45 : Cl → Cl → Nat → Int32 → Option (Cl × Cl)) (c3 : Cl) (c5 : Cl) (a0 : Nat) (lab : Nat) (xs : List Int32) (ys : List Int64) (zs : List Nat) : Option (Cl × Cl) := match lab, xs, ys, zs with
  | 0, [x1], [], [] =>
    ((if x1 < 10 then
    F_32 c3 (cR c5 0 a0) 22 >>= fun r13 =>
    if r13.1 = 0 then
    F_32 r13.2 (cR c5 0 a0) 191 >>= fun r15 =>
    if r15.1 = 0 then
    some (r15.2, c5)
    else
    R_44 r15.2 c5 a0 (x1 + 1) >>= fun r17 =>
    F_32 r17.1 (cR r17.2 0 a0) 193 >>= fun r19 =>
    if r19.1 = 0 then
    F_28 r19.2 (cR r17.2 0 a0) 0 >>= fun r21 =>
    some (r21, r17.2)
    else
    some (r19.2, r17.2)
    else
    R_45 r13.2 c5 a0 (x1 + 1) >>= fun r22 =>
    F_43 r22.2 a0 31 >>= fun r23 =>
    some (r22.1, r23)
    else
    F_28 c3 (cR c5 0 a0) 2 >>= fun r25 =>
    some (r25, c5)) : Option (Cl × Cl)) >>= fun (t9 : Cl × Cl) =>
    some (t9.1, t9.2)
  | _, _, _, _ => none
set_option maxRecDepth 100000 in
set_option maxHeartbeats 4000000 in
theorem g_45 {D : Nat} {R_44 : Cl → Cl → Nat → Int32 → Option (Cl × Cl)} (hR_44 : ∀ {c0 c1 c2 c3 c4 c5 c6 c7 c8 c9 c10 c11 c12 c13 : Cl} {d : Ad} {h : UH} {a0 : Nat} {p1 : Int32} {r : (Cl × Cl)}, HW (mkw c0 c1 c2 c3 c4 c5 c6 c7 c8 c9 c10 c11 c12 c13) d h → aK d a0 = (0, 5, 0) → R_44 c3 c5 a0 p1 = some r → ∃ q, EX D 44 [.ref a0, .int p1] h q ∧ q.1 = none ∧ HW (mkw c0 c1 c2 r.1 c4 r.2 c6 c7 c8 c9 c10 c11 c12 c13) d q.2) {R_45 : Cl → Cl → Nat → Int32 → Option (Cl × Cl)} (hR_45 : ∀ {c0 c1 c2 c3 c4 c5 c6 c7 c8 c9 c10 c11 c12 c13 : Cl} {d : Ad} {h : UH} {a0 : Nat} {p1 : Int32} {r : (Cl × Cl)}, HW (mkw c0 c1 c2 c3 c4 c5 c6 c7 c8 c9 c10 c11 c12 c13) d h → aK d a0 = (0, 5, 0) → R_45 c3 c5 a0 p1 = some r → ∃ q, EX D 45 [.ref a0, .int p1] h q ∧ q.1 = none ∧ HW (mkw c0 c1 c2 r.1 c4 r.2 c6 c7 c8 c9 c10 c11 c12 c13) d q.2) (hD : 4 ≤ D + 1) {c0 c1 c2 c3 c4 c5 c6 c7 c8 c9 c10 c11 c12 c13 : Cl} {d : Ad} {a0 : Nat} (ha0 : aK d a0 = (0, 5, 0)) : ∀ (lab : Nat) (xs : List Int32) (ys : List Int64) (zs : List Nat) (r : (Cl × Cl)), G_45 R_44 R_45 c3 c5 a0 lab xs ys zs = some r →
    (∀ (x1 : Int32), lab = 0 → xs = [x1] → ys = [] → zs = [] → ∀ h : UH, HW (mkw c0 c1 c2 c3 c4 c5 c6 c7 c8 c9 c10 c11 c12 c13) d h → ∀ QQ : UR → Prop, (∀ h' : UH, HW (mkw c0 c1 c2 r.1 c4 r.2 c6 c7 c8 c9 c10 c11 c12 c13) d h' → QQ (none, h')) → Ends (EX D) (u_at kl_45) (42, [some (.ref a0), some (.int x1), none, none], [], h) QQ) := by
  intro lab xs ys zs r hF
  unfold G_45 at hF
  · intro x1 e1 e2 e3 e4 h hW QQ hQ
    subst e1 e2 e3 e4
    refine en_segs [(42, .iload_n 1, []), (43, .bipush 10, [])] (by decide +kernel) (y := (45, [some (.ref a0), some (.int x1), none, none], [.int 10, .int x1], h)) rfl ?_
    obtain ⟨t9, hX, hK⟩ := ob_some hF
    have j10 : ∀ h : UH, HW (mkw c0 c1 c2 t9.1 c4 t9.2 c6 c7 c8 c9 c10 c11 c12 c13) d h → Ends (EX D) (u_at kl_45) (128, [some (.ref a0), some (.int x1), none, none], [], h) QQ := by
      intro h hW
      have hF := hK
      obtain rfl := Option.some.inj hF
      exact en_ret (by decide +kernel : u_at kl_45 128 = some (.return_, [])) rfl (hQ _ hW)
    have hF := hX
    refine en_ic_lt (by decide +kernel : u_at kl_45 45 = some (.if_icmp .lt 14, [59])) (fun b11 => ?_) (fun b11 => ?_)
    · replace hF := i_pos b11 hF
      refine en_segs [(59, .aload_n 0, [])] (by decide +kernel) (y := (60, [some (.ref a0), some (.int x1), none, none], [.ref a0], h)) rfl ?_
      have k12 : aK d (cR c5 0 a0) = (0, 3, 0) := wf_obj hW ha0 (by decide) rfl
      refine en_get (by decide +kernel : u_at kl_45 60 = some (.getfield 21, [5, 0])) hW ha0 (by decide) rfl ?_
      refine en_segs [(63, .bipush 22, [])] (by decide +kernel) (y := (65, [some (.ref a0), some (.int x1), none, none], [.int 22, .ref (cR c5 0 a0)], h)) rfl ?_
      obtain ⟨r13, hr13, hF⟩ := ob_some hF
      refine en_vi (r := []) (by decide +kernel : u_at kl_45 65 = some (.invokevirtual 72, [32, 1, 3])) hW k12 rfl rfl (Nat.le_of_ble_eq_true rfl) (e_32 (D := D) (by omega) hW k12 hr13) (fun h hW => ?_)
      have hW : HW (mkw c0 c1 c2 r13.2 c4 c5 c6 c7 c8 c9 c10 c11 c12 c13) d h := hW
      refine en_if_eq (by decide +kernel : u_at kl_45 68 = some (.ifCond .eq 19, [87])) (fun b14 => ?_) (fun b14 => ?_)
      · replace hF := i_pos b14 hF
        refine en_segs [(87, .aload_n 0, [])] (by decide +kernel) (y := (88, [some (.ref a0), some (.int x1), none, none], [.ref a0], h)) rfl ?_
        refine en_get (by decide +kernel : u_at kl_45 88 = some (.getfield 21, [5, 0])) hW ha0 (by decide) rfl ?_
        refine en_segs [(91, .sipush 191, [])] (by decide +kernel) (y := (94, [some (.ref a0), some (.int x1), none, none], [.int 191, .ref (cR c5 0 a0)], h)) rfl ?_
        obtain ⟨r15, hr15, hF⟩ := ob_some hF
        refine en_vi (r := []) (by decide +kernel : u_at kl_45 94 = some (.invokevirtual 72, [32, 1, 3])) hW k12 rfl rfl (Nat.le_of_ble_eq_true rfl) (e_32 (D := D) (by omega) hW k12 hr15) (fun h hW => ?_)
        have hW : HW (mkw c0 c1 c2 r15.2 c4 c5 c6 c7 c8 c9 c10 c11 c12 c13) d h := hW
        refine en_if_eq (by decide +kernel : u_at kl_45 97 = some (.ifCond .eq 31, [128])) (fun b16 => ?_) (fun b16 => ?_)
        · replace hF := i_pos b16 hF
          obtain rfl := Option.some.inj hF
          exact j10 _ hW
        · replace hF := i_neg b16 hF
          refine en_segs [(100, .aload_n 0, []), (101, .iload_n 1, []), (102, .iconst 1, []), (103, .iadd, [])] (by decide +kernel) (y := (104, [some (.ref a0), some (.int x1), none, none], [.int (x1 + 1), .ref a0], h)) rfl ?_
          obtain ⟨r17, hr17, hF⟩ := ob_some hF
          refine en_vv (r := []) (by decide +kernel : u_at kl_45 104 = some (.invokevirtual 76, [44, 1, 5])) hW ha0 rfl rfl (Nat.le_of_ble_eq_true rfl) (hR_44 hW ha0 hr17) (fun h hW => ?_)
          have hW : HW (mkw c0 c1 c2 r17.1 c4 r17.2 c6 c7 c8 c9 c10 c11 c12 c13) d h := hW
          refine en_segs [(107, .aload_n 0, [])] (by decide +kernel) (y := (108, [some (.ref a0), some (.int x1), none, none], [.ref a0], h)) rfl ?_
          have k18 : aK d (cR r17.2 0 a0) = (0, 3, 0) := wf_obj hW ha0 (by decide) rfl
          refine en_get (by decide +kernel : u_at kl_45 108 = some (.getfield 21, [5, 0])) hW ha0 (by decide) rfl ?_
          refine en_segs [(111, .sipush 193, [])] (by decide +kernel) (y := (114, [some (.ref a0), some (.int x1), none, none], [.int 193, .ref (cR r17.2 0 a0)], h)) rfl ?_
          obtain ⟨r19, hr19, hF⟩ := ob_some hF
          refine en_vi (r := []) (by decide +kernel : u_at kl_45 114 = some (.invokevirtual 72, [32, 1, 3])) hW k18 rfl rfl (Nat.le_of_ble_eq_true rfl) (e_32 (D := D) (by omega) hW k18 hr19) (fun h hW => ?_)
          have hW : HW (mkw c0 c1 c2 r19.2 c4 r17.2 c6 c7 c8 c9 c10 c11 c12 c13) d h := hW
          refine en_if_ne (by decide +kernel : u_at kl_45 117 = some (.ifCond .ne 11, [128])) (fun b20 => ?_) (fun b20 => ?_)
          · replace hF := i_pos b20 hF
            refine en_segs [(120, .aload_n 0, [])] (by decide +kernel) (y := (121, [some (.ref a0), some (.int x1), none, none], [.ref a0], h)) rfl ?_
            refine en_get (by decide +kernel : u_at kl_45 121 = some (.getfield 21, [5, 0])) hW ha0 (by decide) rfl ?_
            refine en_segs [(124, .iconst 0, [])] (by decide +kernel) (y := (125, [some (.ref a0), some (.int x1), none, none], [.int 0, .ref (cR r17.2 0 a0)], h)) rfl ?_
            obtain ⟨r21, hr21, hF⟩ := ob_some hF
            refine en_vv (r := []) (by decide +kernel : u_at kl_45 125 = some (.invokevirtual 63, [28, 1, 3])) hW k18 rfl rfl (Nat.le_of_ble_eq_true rfl) (e_28 (D := D) (by omega) hW k18 hr21) (fun h hW => ?_)
            have hW : HW (mkw c0 c1 c2 r21 c4 r17.2 c6 c7 c8 c9 c10 c11 c12 c13) d h := hW
            obtain rfl := Option.some.inj hF
            exact j10 _ hW
          · replace hF := i_neg b20 hF
            obtain rfl := Option.some.inj hF
            exact j10 _ hW
      · replace hF := i_neg b14 hF
        refine en_segs [(71, .aload_n 0, []), (72, .iload_n 1, []), (73, .iconst 1, []), (74, .iadd, [])] (by decide +kernel) (y := (75, [some (.ref a0), some (.int x1), none, none], [.int (x1 + 1), .ref a0], h)) rfl ?_
        obtain ⟨r22, hr22, hF⟩ := ob_some hF
        refine en_vv (r := []) (by decide +kernel : u_at kl_45 75 = some (.invokevirtual 79, [45, 1, 5])) hW ha0 rfl rfl (Nat.le_of_ble_eq_true rfl) (hR_45 hW ha0 hr22) (fun h hW => ?_)
        have hW : HW (mkw c0 c1 c2 r22.1 c4 r22.2 c6 c7 c8 c9 c10 c11 c12 c13) d h := hW
        refine en_segs [(78, .aload_n 0, []), (79, .bipush 31, [])] (by decide +kernel) (y := (81, [some (.ref a0), some (.int x1), none, none], [.int 31, .ref a0], h)) rfl ?_
        obtain ⟨r23, hr23, hF⟩ := ob_some hF
        refine en_vv (r := []) (by decide +kernel : u_at kl_45 81 = some (.invokevirtual 82, [43, 1, 5])) hW ha0 rfl rfl (Nat.le_of_ble_eq_true rfl) (e_43 (D := D) (by omega) hW ha0 hr23) (fun h hW => ?_)
        have hW : HW (mkw c0 c1 c2 r22.1 c4 r23 c6 c7 c8 c9 c10 c11 c12 c13) d h := hW
        refine en_segs [(84, .goto 44, [128])] (by decide +kernel) (y := (128, [some (.ref a0), some (.int x1), none, none], [], h)) rfl ?_
        obtain rfl := Option.some.inj hF
        exact j10 _ hW
    · replace hF := i_neg b11 hF
      refine en_segs [(48, .aload_n 0, [])] (by decide +kernel) (y := (49, [some (.ref a0), some (.int x1), none, none], [.ref a0], h)) rfl ?_
      have k24 : aK d (cR c5 0 a0) = (0, 3, 0) := wf_obj hW ha0 (by decide) rfl
      refine en_get (by decide +kernel : u_at kl_45 49 = some (.getfield 21, [5, 0])) hW ha0 (by decide) rfl ?_
      refine en_segs [(52, .iconst 2, [])] (by decide +kernel) (y := (53, [some (.ref a0), some (.int x1), none, none], [.int 2, .ref (cR c5 0 a0)], h)) rfl ?_
      obtain ⟨r25, hr25, hF⟩ := ob_some hF
      refine en_vv (r := []) (by decide +kernel : u_at kl_45 53 = some (.invokevirtual 63, [28, 1, 3])) hW k24 rfl rfl (Nat.le_of_ble_eq_true rfl) (e_28 (D := D) (by omega) hW k24 hr25) (fun h hW => ?_)
      have hW : HW (mkw c0 c1 c2 r25 c4 c5 c6 c7 c8 c9 c10 c11 c12 c13) d h := hW
      refine en_segs [(56, .goto 72, [128])] (by decide +kernel) (y := (128, [some (.ref a0), some (.int x1), none, none], [], h)) rfl ?_
      obtain rfl := Option.some.inj hF
      exact j10 _ hW
def A_45 (R_44 : Cl → Cl → Nat → Int32 → Option (Cl × Cl)) (R_45 : Cl → Cl → Nat → Int32 → Option (Cl × Cl)) (c3 : Cl) (c5 : Cl) (a0 : Nat) (p1 : Int32) : Option (Cl × Cl) :=
  F_29 c3 (cR c5 0 a0) >>= fun r2 =>
  if r2 = 22 then
  G_45 R_44 R_45 c3 c5 a0 0 [p1] [] []
  else
  if r2 = 191 then
  G_45 R_44 R_45 c3 c5 a0 0 [p1] [] []
  else
  F_48 c3 c5 a0 >>= fun r5 =>
  F_46 r5.1 r5.2 a0 >>= fun r6 =>
  F_48 r6.2.1 r6.2.2 a0 >>= fun r7 =>
  F_43 r7.2 a0 r6.1 >>= fun r8 =>
  some (r7.1, r8)
set_option maxRecDepth 100000 in
set_option maxHeartbeats 4000000 in
/-- HeadCounts$RuleReader.readFact -/
theorem a_45 {D : Nat} {R_44 : Cl → Cl → Nat → Int32 → Option (Cl × Cl)} (hR_44 : ∀ {c0 c1 c2 c3 c4 c5 c6 c7 c8 c9 c10 c11 c12 c13 : Cl} {d : Ad} {h : UH} {a0 : Nat} {p1 : Int32} {r : (Cl × Cl)}, HW (mkw c0 c1 c2 c3 c4 c5 c6 c7 c8 c9 c10 c11 c12 c13) d h → aK d a0 = (0, 5, 0) → R_44 c3 c5 a0 p1 = some r → ∃ q, EX D 44 [.ref a0, .int p1] h q ∧ q.1 = none ∧ HW (mkw c0 c1 c2 r.1 c4 r.2 c6 c7 c8 c9 c10 c11 c12 c13) d q.2) {R_45 : Cl → Cl → Nat → Int32 → Option (Cl × Cl)} (hR_45 : ∀ {c0 c1 c2 c3 c4 c5 c6 c7 c8 c9 c10 c11 c12 c13 : Cl} {d : Ad} {h : UH} {a0 : Nat} {p1 : Int32} {r : (Cl × Cl)}, HW (mkw c0 c1 c2 c3 c4 c5 c6 c7 c8 c9 c10 c11 c12 c13) d h → aK d a0 = (0, 5, 0) → R_45 c3 c5 a0 p1 = some r → ∃ q, EX D 45 [.ref a0, .int p1] h q ∧ q.1 = none ∧ HW (mkw c0 c1 c2 r.1 c4 r.2 c6 c7 c8 c9 c10 c11 c12 c13) d q.2) {c0 c1 c2 c3 c4 c5 c6 c7 c8 c9 c10 c11 c12 c13 : Cl} {d : Ad} {h : UH} {a0 : Nat} {p1 : Int32} {r : (Cl × Cl)} (hD : 4 ≤ D + 1) (hW : HW (mkw c0 c1 c2 c3 c4 c5 c6 c7 c8 c9 c10 c11 c12 c13) d h) (ha0 : aK d a0 = (0, 5, 0)) (hF : A_45 R_44 R_45 c3 c5 a0 p1 = some r) : ∃ q, EX (D + 1) 45 [.ref a0, .int p1] h q ∧ q.1 = none ∧ HW (mkw c0 c1 c2 r.1 c4 r.2 c6 c7 c8 c9 c10 c11 c12 c13) d q.2 := by
  unfold A_45 at hF
  refine ex_in (kl := kl_45) (nL := 4) rfl (by decide +kernel) (Nat.le_of_ble_eq_true rfl) ?_
  obtain ⟨QQ, hQQ⟩ : ∃ QQ : UR → Prop, QQ = (fun q : UR => q.1 = none ∧ HW (mkw c0 c1 c2 r.1 c4 r.2 c6 c7 c8 c9 c10 c11 c12 c13) d q.2) := ⟨_, rfl⟩
  rw [← hQQ]
  have hQ : ∀ h' : UH, HW (mkw c0 c1 c2 r.1 c4 r.2 c6 c7 c8 c9 c10 c11 c12 c13) d h' → QQ (none, h') := fun h' p => by rw [hQQ]; exact ⟨rfl, p⟩
  clear hQQ
  show Ends (EX D) (u_at kl_45) (0, [some (.ref a0), some (.int p1), none, none], [], h) QQ
  refine en_segs [(0, .aload_n 0, [])] (by decide +kernel) (y := (1, [some (.ref a0), some (.int p1), none, none], [.ref a0], h)) rfl ?_
  have k1 : aK d (cR c5 0 a0) = (0, 3, 0) := wf_obj hW ha0 (by decide) rfl
  refine en_get (by decide +kernel : u_at kl_45 1 = some (.getfield 21, [5, 0])) hW ha0 (by decide) rfl ?_
  obtain ⟨r2, hr2, hF⟩ := ob_some hF
  refine en_vi (r := []) (by decide +kernel : u_at kl_45 4 = some (.invokevirtual 59, [29, 0, 3])) hW k1 rfl rfl (Nat.le_of_ble_eq_true rfl) (e_29 (D := D) (by omega) hW k1 hr2) (fun h' q => ?_)
  subst q
  refine en_segs [(7, .istore_n 2, []), (8, .iload_n 2, []), (9, .bipush 22, [])] (by decide +kernel) (y := (11, [some (.ref a0), some (.int p1), some (.int r2), none], [.int 22, .int r2], h)) rfl ?_
  refine en_ic_eq (by decide +kernel : u_at kl_45 11 = some (.if_icmp .eq 31, [42])) (fun b3 => ?_) (fun b3 => ?_)
  · replace hF := i_pos b3 hF
    refine en_fg (fg_k (fg_k (fg_d (fg_k fg_0)))) ?_
    exact (g_45 (D := D) hR_44 hR_45 hD ha0 _ _ _ _ _ hF) _ rfl rfl rfl rfl  _ hW _ hQ
  · replace hF := i_neg b3 hF
    refine en_segs [(14, .iload_n 2, []), (15, .sipush 191, [])] (by decide +kernel) (y := (18, [some (.ref a0), some (.int p1), some (.int r2), none], [.int 191, .int r2], h)) rfl ?_
    refine en_ic_eq (by decide +kernel : u_at kl_45 18 = some (.if_icmp .eq 24, [42])) (fun b4 => ?_) (fun b4 => ?_)
    · replace hF := i_pos b4 hF
      refine en_fg (fg_k (fg_k (fg_d (fg_k fg_0)))) ?_
      exact (g_45 (D := D) hR_44 hR_45 hD ha0 _ _ _ _ _ hF) _ rfl rfl rfl rfl  _ hW _ hQ
    · replace hF := i_neg b4 hF
      refine en_segs [(21, .aload_n 0, [])] (by decide +kernel) (y := (22, [some (.ref a0), some (.int p1), some (.int r2), none], [.ref a0], h)) rfl ?_
      obtain ⟨r5, hr5, hF⟩ := ob_some hF
      refine en_vv (r := []) (by decide +kernel : u_at kl_45 22 = some (.invokevirtual 69, [48, 0, 5])) hW ha0 rfl rfl (Nat.le_of_ble_eq_true rfl) (e_48 (D := D) (by omega) hW ha0 hr5) (fun h hW => ?_)
      have hW : HW (mkw c0 c1 c2 r5.1 c4 r5.2 c6 c7 c8 c9 c10 c11 c12 c13) d h := hW
      refine en_segs [(25, .aload_n 0, [])] (by decide +kernel) (y := (26, [some (.ref a0), some (.int p1), some (.int r2), none], [.ref a0], h)) rfl ?_
      obtain ⟨r6, hr6, hF⟩ := ob_some hF
      refine en_vi (r := []) (by decide +kernel : u_at kl_45 26 = some (.invokevirtual 85, [46, 0, 5])) hW ha0 rfl rfl (Nat.le_of_ble_eq_true rfl) (e_46 (D := D) (by omega) hW ha0 hr6) (fun h hW => ?_)
      have hW : HW (mkw c0 c1 c2 r6.2.1 c4 r6.2.2 c6 c7 c8 c9 c10 c11 c12 c13) d h := hW
      refine en_segs [(29, .istore_n 3, []), (30, .aload_n 0, [])] (by decide +kernel) (y := (31, [some (.ref a0), some (.int p1), some (.int r2), some (.int r6.1)], [.ref a0], h)) rfl ?_
      obtain ⟨r7, hr7, hF⟩ := ob_some hF
      refine en_vv (r := []) (by decide +kernel : u_at kl_45 31 = some (.invokevirtual 69, [48, 0, 5])) hW ha0 rfl rfl (Nat.le_of_ble_eq_true rfl) (e_48 (D := D) (by omega) hW ha0 hr7) (fun h hW => ?_)
      have hW : HW (mkw c0 c1 c2 r7.1 c4 r7.2 c6 c7 c8 c9 c10 c11 c12 c13) d h := hW
      refine en_segs [(34, .aload_n 0, []), (35, .iload_n 3, [])] (by decide +kernel) (y := (36, [some (.ref a0), some (.int p1), some (.int r2), some (.int r6.1)], [.int r6.1, .ref a0], h)) rfl ?_
      obtain ⟨r8, hr8, hF⟩ := ob_some hF
      refine en_vv (r := []) (by decide +kernel : u_at kl_45 36 = some (.invokevirtual 82, [43, 1, 5])) hW ha0 rfl rfl (Nat.le_of_ble_eq_true rfl) (e_43 (D := D) (by omega) hW ha0 hr8) (fun h hW => ?_)
      have hW : HW (mkw c0 c1 c2 r7.1 c4 r8 c6 c7 c8 c9 c10 c11 c12 c13) d h := hW
      refine en_segs [(39, .goto 89, [128])] (by decide +kernel) (y := (128, [some (.ref a0), some (.int p1), some (.int r2), some (.int r6.1)], [], h)) rfl ?_
      obtain rfl := Option.some.inj hF
      exact en_ret (by decide +kernel : u_at kl_45 128 = some (.return_, [])) rfl (hQ _ hW)
def G_44 (R_45 : Cl → Cl → Nat → Int32 → Option (Cl × Cl)) (a0 : Nat) (lab : Nat) (xs : List Int32) (ys : List Int64) (zs : List Nat) (c3 : Cl) (c5 : Cl) : Option (Cl × Cl) := match lab, xs, ys, zs with
  | 0, [x1, x2, x3], [], [] =>
    if 400 ≤ x3 then
    G_44 R_45 a0 1 [x2] [] [] c3 c5
    else
    if (cI c3 7 (cR c5 0 a0)) = 0 then
    F_32 c3 (cR c5 0 a0) 20 >>= fun r5 =>
    if r5.1 = 0 then
    F_32 r5.2 (cR c5 0 a0) 21 >>= fun r7 =>
    if r7.1 = 0 then
    G_44 R_45 a0 1 [x2] [] [] r7.2 c5
    else
    ((if x2 = 0 then
    some c5
    else
    F_43 c5 a0 30 >>= fun r13 =>
    some r13) : Option (Cl)) >>= fun (t9 : Cl) =>
    R_45 r7.2 t9 a0 x1 >>= fun r11 =>
    G_44 R_45 a0 0 [x1, 1, x3 + 1] [] [] r11.1 r11.2
    else
    R_45 r5.2 c5 a0 x1 >>= fun r14 =>
    F_43 r14.2 a0 29 >>= fun r15 =>
    G_44 R_45 a0 0 [x1, x2, x3 + 1] [] [] r14.1 r15
    else
    G_44 R_45 a0 1 [x2] [] [] c3 c5
  | 1, [x2], [], [] =>
    ((if x2 = 0 then
    some c5
    else
    F_43 c5 a0 30 >>= fun r19 =>
    some r19) : Option (Cl)) >>= fun (t16 : Cl) =>
    some (c3, t16)
  | _, _, _, _ => none
partial_fixpoint
set_option maxRecDepth 100000 in
set_option maxHeartbeats 4000000 in
theorem g_44 {D : Nat} {R_45 : Cl → Cl → Nat → Int32 → Option (Cl × Cl)} (hR_45 : ∀ {c0 c1 c2 c3 c4 c5 c6 c7 c8 c9 c10 c11 c12 c13 : Cl} {d : Ad} {h : UH} {a0 : Nat} {p1 : Int32} {r : (Cl × Cl)}, HW (mkw c0 c1 c2 c3 c4 c5 c6 c7 c8 c9 c10 c11 c12 c13) d h → aK d a0 = (0, 5, 0) → R_45 c3 c5 a0 p1 = some r → ∃ q, EX D 45 [.ref a0, .int p1] h q ∧ q.1 = none ∧ HW (mkw c0 c1 c2 r.1 c4 r.2 c6 c7 c8 c9 c10 c11 c12 c13) d q.2) (hD : 3 ≤ D + 1) {c0 c1 c2 c4 c6 c7 c8 c9 c10 c11 c12 c13 : Cl} {d : Ad} {a0 : Nat} (ha0 : aK d a0 = (0, 5, 0)) : ∀ (lab : Nat) (xs : List Int32) (ys : List Int64) (zs : List Nat) (c3 : Cl) (c5 : Cl) (r : (Cl × Cl)), G_44 R_45 a0 lab xs ys zs c3 c5 = some r →
    (∀ (x1 : Int32) (x2 : Int32) (x3 : Int32), lab = 0 → xs = [x1, x2, x3] → ys = [] → zs = [] → ∀ h : UH, HW (mkw c0 c1 c2 c3 c4 c5 c6 c7 c8 c9 c10 c11 c12 c13) d h → ∀ QQ : UR → Prop, (∀ h' : UH, HW (mkw c0 c1 c2 r.1 c4 r.2 c6 c7 c8 c9 c10 c11 c12 c13) d h' → QQ (none, h')) → Ends (EX D) (u_at kl_44) (9, [some (.ref a0), some (.int x1), some (.int x2), some (.int x3)], [], h) QQ) ∧
    (∀ (x2 : Int32), lab = 1 → xs = [x2] → ys = [] → zs = [] → ∀ h : UH, HW (mkw c0 c1 c2 c3 c4 c5 c6 c7 c8 c9 c10 c11 c12 c13) d h → ∀ QQ : UR → Prop, (∀ h' : UH, HW (mkw c0 c1 c2 r.1 c4 r.2 c6 c7 c8 c9 c10 c11 c12 c13) d h' → QQ (none, h')) → Ends (EX D) (u_at kl_44) (87, [some (.ref a0), none, some (.int x2), none], [], h) QQ) := by
  refine G_44.partial_correctness _ _ (motive := fun lab xs ys zs c3 c5 r =>
    (∀ (x1 : Int32) (x2 : Int32) (x3 : Int32), lab = 0 → xs = [x1, x2, x3] → ys = [] → zs = [] → ∀ h : UH, HW (mkw c0 c1 c2 c3 c4 c5 c6 c7 c8 c9 c10 c11 c12 c13) d h → ∀ QQ : UR → Prop, (∀ h' : UH, HW (mkw c0 c1 c2 r.1 c4 r.2 c6 c7 c8 c9 c10 c11 c12 c13) d h' → QQ (none, h')) → Ends (EX D) (u_at kl_44) (9, [some (.ref a0), some (.int x1), some (.int x2), some (.int x3)], [], h) QQ) ∧
    (∀ (x2 : Int32), lab = 1 → xs = [x2] → ys = [] → zs = [] → ∀ h : UH, HW (mkw c0 c1 c2 c3 c4 c5 c6 c7 c8 c9 c10 c11 c12 c13) d h → ∀ QQ : UR → Prop, (∀ h' : UH, HW (mkw c0 c1 c2 r.1 c4 r.2 c6 c7 c8 c9 c10 c11 c12 c13) d h' → QQ (none, h')) → Ends (EX D) (u_at kl_44) (87, [some (.ref a0), none, some (.int x2), none], [], h) QQ)) ?_
  intro G ih lab xs ys zs c3 c5 r hF
  refine ⟨?_, ?_⟩
  · intro x1 x2 x3 e1 e2 e3 e4 h hW QQ hQ
    subst e1 e2 e3 e4
    refine en_segs [(9, .iload_n 3, []), (10, .sipush 400, [])] (by decide +kernel) (y := (13, [some (.ref a0), some (.int x1), some (.int x2), some (.int x3)], [.int 400, .int x3], h)) rfl ?_
    refine en_ic_ge (by decide +kernel : u_at kl_44 13 = some (.if_icmp .ge 74, [87])) (fun b2 => ?_) (fun b2 => ?_)
    · replace hF := i_pos b2 hF
      refine en_fg (fg_k (fg_d (fg_k (fg_d fg_0)))) ?_
      exact (ih _ _ _ _ _ _ _ hF).2 _ rfl rfl rfl rfl  _ hW _ hQ
    · replace hF := i_neg b2 hF
      refine en_segs [(16, .aload_n 0, [])] (by decide +kernel) (y := (17, [some (.ref a0), some (.int x1), some (.int x2), some (.int x3)], [.ref a0], h)) rfl ?_
      have k3 : aK d (cR c5 0 a0) = (0, 3, 0) := wf_obj hW ha0 (by decide) rfl
      refine en_get (by decide +kernel : u_at kl_44 17 = some (.getfield 21, [5, 0])) hW ha0 (by decide) rfl ?_
      refine en_get (by decide +kernel : u_at kl_44 20 = some (.getfield 45, [3, 7])) hW k3 (by decide) rfl ?_
      refine en_if_ne (by decide +kernel : u_at kl_44 23 = some (.ifCond .ne 64, [87])) (fun b4 => ?_) (fun b4 => ?_)
      · replace hF := i_pos b4 hF
        refine en_segs [(26, .aload_n 0, [])] (by decide +kernel) (y := (27, [some (.ref a0), some (.int x1), some (.int x2), some (.int x3)], [.ref a0], h)) rfl ?_
        refine en_get (by decide +kernel : u_at kl_44 27 = some (.getfield 21, [5, 0])) hW ha0 (by decide) rfl ?_
        refine en_segs [(30, .bipush 20, [])] (by decide +kernel) (y := (32, [some (.ref a0), some (.int x1), some (.int x2), some (.int x3)], [.int 20, .ref (cR c5 0 a0)], h)) rfl ?_
        obtain ⟨r5, hr5, hF⟩ := ob_some hF
        refine en_vi (r := []) (by decide +kernel : u_at kl_44 32 = some (.invokevirtual 72, [32, 1, 3])) hW k3 rfl rfl (Nat.le_of_ble_eq_true rfl) (e_32 (D := D) (by omega) hW k3 hr5) (fun h hW => ?_)
        have hW : HW (mkw c0 c1 c2 r5.2 c4 c5 c6 c7 c8 c9 c10 c11 c12 c13) d h := hW
        refine en_if_eq (by decide +kernel : u_at kl_44 35 = some (.ifCond .eq 17, [52])) (fun b6 => ?_) (fun b6 => ?_)
        · replace hF := i_pos b6 hF
          refine en_segs [(52, .aload_n 0, [])] (by decide +kernel) (y := (53, [some (.ref a0), some (.int x1), some (.int x2), some (.int x3)], [.ref a0], h)) rfl ?_
          refine en_get (by decide +kernel : u_at kl_44 53 = some (.getfield 21, [5, 0])) hW ha0 (by decide) rfl ?_
          refine en_segs [(56, .bipush 21, [])] (by decide +kernel) (y := (58, [some (.ref a0), some (.int x1), some (.int x2), some (.int x3)], [.int 21, .ref (cR c5 0 a0)], h)) rfl ?_
          obtain ⟨r7, hr7, hF⟩ := ob_some hF
          refine en_vi (r := []) (by decide +kernel : u_at kl_44 58 = some (.invokevirtual 72, [32, 1, 3])) hW k3 rfl rfl (Nat.le_of_ble_eq_true rfl) (e_32 (D := D) (by omega) hW k3 hr7) (fun h hW => ?_)
          have hW : HW (mkw c0 c1 c2 r7.2 c4 c5 c6 c7 c8 c9 c10 c11 c12 c13) d h := hW
          refine en_if_eq (by decide +kernel : u_at kl_44 61 = some (.ifCond .eq 26, [87])) (fun b8 => ?_) (fun b8 => ?_)
          · replace hF := i_pos b8 hF
            refine en_fg (fg_k (fg_d (fg_k (fg_d fg_0)))) ?_
            exact (ih _ _ _ _ _ _ _ hF).2 _ rfl rfl rfl rfl  _ hW _ hQ
          · replace hF := i_neg b8 hF
            refine en_segs [(64, .iload_n 2, [])] (by decide +kernel) (y := (65, [some (.ref a0), some (.int x1), some (.int x2), some (.int x3)], [.int x2], h)) rfl ?_
            obtain ⟨t9, hX, hK⟩ := ob_some hF
            have j10 : ∀ h : UH, HW (mkw c0 c1 c2 r7.2 c4 t9 c6 c7 c8 c9 c10 c11 c12 c13) d h → Ends (EX D) (u_at kl_44) (74, [some (.ref a0), some (.int x1), some (.int x2), some (.int x3)], [], h) QQ := by
              intro h hW
              have hF := hK
              refine en_segs [(74, .iconst 1, []), (75, .istore_n 2, []), (76, .aload_n 0, []), (77, .iload_n 1, [])] (by decide +kernel) (y := (78, [some (.ref a0), some (.int x1), some (.int 1), some (.int x3)], [.int x1, .ref a0], h)) rfl ?_
              obtain ⟨r11, hr11, hF⟩ := ob_some hF
              refine en_vv (r := []) (by decide +kernel : u_at kl_44 78 = some (.invokevirtual 79, [45, 1, 5])) hW ha0 rfl rfl (Nat.le_of_ble_eq_true rfl) (hR_45 hW ha0 hr11) (fun h hW => ?_)
              have hW : HW (mkw c0 c1 c2 r11.1 c4 r11.2 c6 c7 c8 c9 c10 c11 c12 c13) d h := hW
              refine en_segs [(81, .iinc 3 1, []), (84, .goto (-75), [9])] (by decide +kernel) (y := (9, [some (.ref a0), some (.int x1), some (.int 1), some (.int (x3 + 1))], [], h)) rfl ?_
              exact (ih _ _ _ _ _ _ _ hF).1 _ _ _ rfl rfl rfl rfl  _ hW _ hQ
            have hF := hX
            refine en_if_eq (by decide +kernel : u_at kl_44 65 = some (.ifCond .eq 9, [74])) (fun b12 => ?_) (fun b12 => ?_)
            · replace hF := i_pos b12 hF
              obtain rfl := Option.some.inj hF
              exact j10 _ hW
            · replace hF := i_neg b12 hF
              refine en_segs [(68, .aload_n 0, []), (69, .bipush 30, [])] (by decide +kernel) (y := (71, [some (.ref a0), some (.int x1), some (.int x2), some (.int x3)], [.int 30, .ref a0], h)) rfl ?_
              obtain ⟨r13, hr13, hF⟩ := ob_some hF
              refine en_vv (r := []) (by decide +kernel : u_at kl_44 71 = some (.invokevirtual 82, [43, 1, 5])) hW ha0 rfl rfl (Nat.le_of_ble_eq_true rfl) (e_43 (D := D) (by omega) hW ha0 hr13) (fun h hW => ?_)
              have hW : HW (mkw c0 c1 c2 r7.2 c4 r13 c6 c7 c8 c9 c10 c11 c12 c13) d h := hW
              obtain rfl := Option.some.inj hF
              exact j10 _ hW
        · replace hF := i_neg b6 hF
          refine en_segs [(38, .aload_n 0, []), (39, .iload_n 1, [])] (by decide +kernel) (y := (40, [some (.ref a0), some (.int x1), some (.int x2), some (.int x3)], [.int x1, .ref a0], h)) rfl ?_
          obtain ⟨r14, hr14, hF⟩ := ob_some hF
          refine en_vv (r := []) (by decide +kernel : u_at kl_44 40 = some (.invokevirtual 79, [45, 1, 5])) hW ha0 rfl rfl (Nat.le_of_ble_eq_true rfl) (hR_45 hW ha0 hr14) (fun h hW => ?_)
          have hW : HW (mkw c0 c1 c2 r14.1 c4 r14.2 c6 c7 c8 c9 c10 c11 c12 c13) d h := hW
          refine en_segs [(43, .aload_n 0, []), (44, .bipush 29, [])] (by decide +kernel) (y := (46, [some (.ref a0), some (.int x1), some (.int x2), some (.int x3)], [.int 29, .ref a0], h)) rfl ?_
          obtain ⟨r15, hr15, hF⟩ := ob_some hF
          refine en_vv (r := []) (by decide +kernel : u_at kl_44 46 = some (.invokevirtual 82, [43, 1, 5])) hW ha0 rfl rfl (Nat.le_of_ble_eq_true rfl) (e_43 (D := D) (by omega) hW ha0 hr15) (fun h hW => ?_)
          have hW : HW (mkw c0 c1 c2 r14.1 c4 r15 c6 c7 c8 c9 c10 c11 c12 c13) d h := hW
          refine en_segs [(49, .goto 32, [81]), (81, .iinc 3 1, []), (84, .goto (-75), [9])] (by decide +kernel) (y := (9, [some (.ref a0), some (.int x1), some (.int x2), some (.int (x3 + 1))], [], h)) rfl ?_
          exact (ih _ _ _ _ _ _ _ hF).1 _ _ _ rfl rfl rfl rfl  _ hW _ hQ
      · replace hF := i_neg b4 hF
        refine en_fg (fg_k (fg_d (fg_k (fg_d fg_0)))) ?_
        exact (ih _ _ _ _ _ _ _ hF).2 _ rfl rfl rfl rfl  _ hW _ hQ
  · intro x2 e1 e2 e3 e4 h hW QQ hQ
    subst e1 e2 e3 e4
    refine en_segs [(87, .iload_n 2, [])] (by decide +kernel) (y := (88, [some (.ref a0), none, some (.int x2), none], [.int x2], h)) rfl ?_
    obtain ⟨t16, hX, hK⟩ := ob_some hF
    have j17 : ∀ h : UH, HW (mkw c0 c1 c2 c3 c4 t16 c6 c7 c8 c9 c10 c11 c12 c13) d h → Ends (EX D) (u_at kl_44) (97, [some (.ref a0), none, some (.int x2), none], [], h) QQ := by
      intro h hW
      have hF := hK
      obtain rfl := Option.some.inj hF
      exact en_ret (by decide +kernel : u_at kl_44 97 = some (.return_, [])) rfl (hQ _ hW)
    have hF := hX
    refine en_if_eq (by decide +kernel : u_at kl_44 88 = some (.ifCond .eq 9, [97])) (fun b18 => ?_) (fun b18 => ?_)
    · replace hF := i_pos b18 hF
      obtain rfl := Option.some.inj hF
      exact j17 _ hW
    · replace hF := i_neg b18 hF
      refine en_segs [(91, .aload_n 0, []), (92, .bipush 30, [])] (by decide +kernel) (y := (94, [some (.ref a0), none, some (.int x2), none], [.int 30, .ref a0], h)) rfl ?_
      obtain ⟨r19, hr19, hF⟩ := ob_some hF
      refine en_vv (r := []) (by decide +kernel : u_at kl_44 94 = some (.invokevirtual 82, [43, 1, 5])) hW ha0 rfl rfl (Nat.le_of_ble_eq_true rfl) (e_43 (D := D) (by omega) hW ha0 hr19) (fun h hW => ?_)
      have hW : HW (mkw c0 c1 c2 c3 c4 r19 c6 c7 c8 c9 c10 c11 c12 c13) d h := hW
      obtain rfl := Option.some.inj hF
      exact j17 _ hW
def A_44 (R_45 : Cl → Cl → Nat → Int32 → Option (Cl × Cl)) (c3 : Cl) (c5 : Cl) (a0 : Nat) (p1 : Int32) : Option (Cl × Cl) :=
  R_45 c3 c5 a0 p1 >>= fun r1 =>
  G_44 R_45 a0 0 [p1, 0, 0] [] [] r1.1 r1.2
set_option maxRecDepth 100000 in
set_option maxHeartbeats 4000000 in
/-- HeadCounts$RuleReader.readTest -/
theorem a_44 {D : Nat} {R_45 : Cl → Cl → Nat → Int32 → Option (Cl × Cl)} (hR_45 : ∀ {c0 c1 c2 c3 c4 c5 c6 c7 c8 c9 c10 c11 c12 c13 : Cl} {d : Ad} {h : UH} {a0 : Nat} {p1 : Int32} {r : (Cl × Cl)}, HW (mkw c0 c1 c2 c3 c4 c5 c6 c7 c8 c9 c10 c11 c12 c13) d h → aK d a0 = (0, 5, 0) → R_45 c3 c5 a0 p1 = some r → ∃ q, EX D 45 [.ref a0, .int p1] h q ∧ q.1 = none ∧ HW (mkw c0 c1 c2 r.1 c4 r.2 c6 c7 c8 c9 c10 c11 c12 c13) d q.2) {c0 c1 c2 c3 c4 c5 c6 c7 c8 c9 c10 c11 c12 c13 : Cl} {d : Ad} {h : UH} {a0 : Nat} {p1 : Int32} {r : (Cl × Cl)} (hD : 3 ≤ D + 1) (hW : HW (mkw c0 c1 c2 c3 c4 c5 c6 c7 c8 c9 c10 c11 c12 c13) d h) (ha0 : aK d a0 = (0, 5, 0)) (hF : A_44 R_45 c3 c5 a0 p1 = some r) : ∃ q, EX (D + 1) 44 [.ref a0, .int p1] h q ∧ q.1 = none ∧ HW (mkw c0 c1 c2 r.1 c4 r.2 c6 c7 c8 c9 c10 c11 c12 c13) d q.2 := by
  unfold A_44 at hF
  refine ex_in (kl := kl_44) (nL := 4) rfl (by decide +kernel) (Nat.le_of_ble_eq_true rfl) ?_
  obtain ⟨QQ, hQQ⟩ : ∃ QQ : UR → Prop, QQ = (fun q : UR => q.1 = none ∧ HW (mkw c0 c1 c2 r.1 c4 r.2 c6 c7 c8 c9 c10 c11 c12 c13) d q.2) := ⟨_, rfl⟩
  rw [← hQQ]
  have hQ : ∀ h' : UH, HW (mkw c0 c1 c2 r.1 c4 r.2 c6 c7 c8 c9 c10 c11 c12 c13) d h' → QQ (none, h') := fun h' p => by rw [hQQ]; exact ⟨rfl, p⟩
  clear hQQ
  show Ends (EX D) (u_at kl_44) (0, [some (.ref a0), some (.int p1), none, none], [], h) QQ
  refine en_segs [(0, .aload_n 0, []), (1, .iload_n 1, [])] (by decide +kernel) (y := (2, [some (.ref a0), some (.int p1), none, none], [.int p1, .ref a0], h)) rfl ?_
  obtain ⟨r1, hr1, hF⟩ := ob_some hF
  refine en_vv (r := []) (by decide +kernel : u_at kl_44 2 = some (.invokevirtual 79, [45, 1, 5])) hW ha0 rfl rfl (Nat.le_of_ble_eq_true rfl) (hR_45 hW ha0 hr1) (fun h hW => ?_)
  have hW : HW (mkw c0 c1 c2 r1.1 c4 r1.2 c6 c7 c8 c9 c10 c11 c12 c13) d h := hW
  refine en_segs [(5, .iconst 0, []), (6, .istore_n 2, []), (7, .iconst 0, []), (8, .istore_n 3, [])] (by decide +kernel) (y := (9, [some (.ref a0), some (.int p1), some (.int 0), some (.int 0)], [], h)) rfl ?_
  exact (g_44 (D := D) hR_45 hD ha0 _ _ _ _ _ _ _ hF).1 _ _ _ rfl rfl rfl rfl  _ hW _ hQ
def FR_45 (n : Nat) : (Cl → Cl → Nat → Int32 → Option (Cl × Cl)) × (Cl → Cl → Nat → Int32 → Option (Cl × Cl)) := match n with
  | 0 => (fun _ _ _ _ => none, fun _ _ _ _ => none)
  | n + 1 => (A_45 ((FR_45 n).2) ((FR_45 n).1), A_44 ((FR_45 n).1))
theorem fr_45 : ∀ (n : Nat) {D : Nat}, n + 4 ≤ D → (∀ {c0 c1 c2 c3 c4 c5 c6 c7 c8 c9 c10 c11 c12 c13 : Cl} {d : Ad} {h : UH} {a0 : Nat} {p1 : Int32} {r : (Cl × Cl)}, HW (mkw c0 c1 c2 c3 c4 c5 c6 c7 c8 c9 c10 c11 c12 c13) d h → aK d a0 = (0, 5, 0) → ((FR_45 n).1) c3 c5 a0 p1 = some r → ∃ q, EX D 45 [.ref a0, .int p1] h q ∧ q.1 = none ∧ HW (mkw c0 c1 c2 r.1 c4 r.2 c6 c7 c8 c9 c10 c11 c12 c13) d q.2) ∧ (∀ {c0 c1 c2 c3 c4 c5 c6 c7 c8 c9 c10 c11 c12 c13 : Cl} {d : Ad} {h : UH} {a0 : Nat} {p1 : Int32} {r : (Cl × Cl)}, HW (mkw c0 c1 c2 c3 c4 c5 c6 c7 c8 c9 c10 c11 c12 c13) d h → aK d a0 = (0, 5, 0) → ((FR_45 n).2) c3 c5 a0 p1 = some r → ∃ q, EX D 44 [.ref a0, .int p1] h q ∧ q.1 = none ∧ HW (mkw c0 c1 c2 r.1 c4 r.2 c6 c7 c8 c9 c10 c11 c12 c13) d q.2) := by
  intro n
  induction n with
  | zero =>
    intro D hD
    exact ⟨(by intros; rename_i hF; exact nomatch hF), (by intros; rename_i hF; exact nomatch hF)⟩
  | succ n ih =>
    intro D hD
    obtain ⟨D, rfl⟩ : ∃ E, D = E + 1 := ⟨D - 1, by omega⟩
    exact ⟨(fun hW f0 hF => a_45 (ih (D := D) (by omega)).2 (ih (D := D) (by omega)).1 (by omega) hW f0 hF), (fun hW f0 hF => a_44 (ih (D := D) (by omega)).1 (by omega) hW f0 hF)⟩
def F_45 : Cl → Cl → Nat → Int32 → Option (Cl × Cl) := (FR_45 40).1
theorem e_45 {D : Nat} (hD : 44 ≤ D) : ∀ {c0 c1 c2 c3 c4 c5 c6 c7 c8 c9 c10 c11 c12 c13 : Cl} {d : Ad} {h : UH} {a0 : Nat} {p1 : Int32} {r : (Cl × Cl)}, HW (mkw c0 c1 c2 c3 c4 c5 c6 c7 c8 c9 c10 c11 c12 c13) d h → aK d a0 = (0, 5, 0) → F_45 c3 c5 a0 p1 = some r → ∃ q, EX D 45 [.ref a0, .int p1] h q ∧ q.1 = none ∧ HW (mkw c0 c1 c2 r.1 c4 r.2 c6 c7 c8 c9 c10 c11 c12 c13) d q.2 := (fr_45 40 hD).1
def F_44 : Cl → Cl → Nat → Int32 → Option (Cl × Cl) := (FR_45 40).2
theorem e_44 {D : Nat} (hD : 44 ≤ D) : ∀ {c0 c1 c2 c3 c4 c5 c6 c7 c8 c9 c10 c11 c12 c13 : Cl} {d : Ad} {h : UH} {a0 : Nat} {p1 : Int32} {r : (Cl × Cl)}, HW (mkw c0 c1 c2 c3 c4 c5 c6 c7 c8 c9 c10 c11 c12 c13) d h → aK d a0 = (0, 5, 0) → F_44 c3 c5 a0 p1 = some r → ∃ q, EX D 44 [.ref a0, .int p1] h q ∧ q.1 = none ∧ HW (mkw c0 c1 c2 r.1 c4 r.2 c6 c7 c8 c9 c10 c11 c12 c13) d q.2 := (fr_45 40 hD).2
def F_42 (c3 : Cl) (c5 : Cl) (a0 : Nat) (p1 : Int32) : Option (Cl × Cl) :=
  F_29 c3 (cR c5 0 a0) >>= fun r2 =>
  ((if r2 = 18 then
  if p1 < 12 then
  F_31 c3 (cR c5 0 a0) >>= fun r7 =>
  F_48 r7 c5 a0 >>= fun r8 =>
  ast r8.2 4 a0 12 p1 (cI r8.2 2 a0) >>= fun c5_9 =>
  F_32 r8.1 (cR c5_9 0 a0) 19 >>= fun r11 =>
  ((if r11.1 = 0 then
  some (r11.2, c5_9)
  else
  F_44 r11.2 c5_9 a0 0 >>= fun r16 =>
  some (r16.1, r16.2)) : Option (Cl × Cl)) >>= fun (t12 : Cl × Cl) =>
  ast t12.2 5 a0 12 p1 (cI t12.2 2 a0) >>= fun c5_14 =>
  some (t12.1, c5_14)
  else
  F_28 c3 (cR c5 0 a0) 4 >>= fun r17 =>
  some (r17, c5)
  else
  F_28 c3 (cR c5 0 a0) 0 >>= fun r18 =>
  some (r18, c5)) : Option (Cl × Cl)) >>= fun (t3 : Cl × Cl) =>
  some (t3.1, t3.2)
set_option maxRecDepth 100000 in
set_option maxHeartbeats 4000000 in
/-- HeadCounts$RuleReader.readClause -/
theorem e_42 {D : Nat} {c0 c1 c2 c3 c4 c5 c6 c7 c8 c9 c10 c11 c12 c13 : Cl} {d : Ad} {h : UH} {a0 : Nat} {p1 : Int32} {r : (Cl × Cl)} (hD : 45 ≤ D) (hW : HW (mkw c0 c1 c2 c3 c4 c5 c6 c7 c8 c9 c10 c11 c12 c13) d h) (ha0 : aK d a0 = (0, 5, 0)) (hF : F_42 c3 c5 a0 p1 = some r) : ∃ q, EX D 42 [.ref a0, .int p1] h q ∧ q.1 = none ∧ HW (mkw c0 c1 c2 r.1 c4 r.2 c6 c7 c8 c9 c10 c11 c12 c13) d q.2 := by
  obtain ⟨D, rfl⟩ : ∃ E, D = E + 1 := ⟨D - 1, by omega⟩
  unfold F_42 at hF
  refine ex_in (kl := kl_42) (nL := 2) rfl (by decide +kernel) (Nat.le_of_ble_eq_true rfl) ?_
  obtain ⟨QQ, hQQ⟩ : ∃ QQ : UR → Prop, QQ = (fun q : UR => q.1 = none ∧ HW (mkw c0 c1 c2 r.1 c4 r.2 c6 c7 c8 c9 c10 c11 c12 c13) d q.2) := ⟨_, rfl⟩
  rw [← hQQ]
  have hQ : ∀ h' : UH, HW (mkw c0 c1 c2 r.1 c4 r.2 c6 c7 c8 c9 c10 c11 c12 c13) d h' → QQ (none, h') := fun h' p => by rw [hQQ]; exact ⟨rfl, p⟩
  clear hQQ
  show Ends (EX D) (u_at kl_42) (0, [some (.ref a0), some (.int p1)], [], h) QQ
  refine en_segs [(0, .aload_n 0, [])] (by decide +kernel) (y := (1, [some (.ref a0), some (.int p1)], [.ref a0], h)) rfl ?_
  have k1 : aK d (cR c5 0 a0) = (0, 3, 0) := wf_obj hW ha0 (by decide) rfl
  refine en_get (by decide +kernel : u_at kl_42 1 = some (.getfield 21, [5, 0])) hW ha0 (by decide) rfl ?_
  obtain ⟨r2, hr2, hF⟩ := ob_some hF
  refine en_vi (r := []) (by decide +kernel : u_at kl_42 4 = some (.invokevirtual 59, [29, 0, 3])) hW k1 rfl rfl (Nat.le_of_ble_eq_true rfl) (e_29 (D := D) (by omega) hW k1 hr2) (fun h' q => ?_)
  subst q
  refine en_segs [(7, .bipush 18, [])] (by decide +kernel) (y := (9, [some (.ref a0), some (.int p1)], [.int 18, .int r2], h)) rfl ?_
  obtain ⟨t3, hX, hK⟩ := ob_some hF
  have j4 : ∀ h : UH, HW (mkw c0 c1 c2 t3.1 c4 t3.2 c6 c7 c8 c9 c10 c11 c12 c13) d h → Ends (EX D) (u_at kl_42) (88, [some (.ref a0), some (.int p1)], [], h) QQ := by
    intro h hW
    have hF := hK
    obtain rfl := Option.some.inj hF
    exact en_ret (by decide +kernel : u_at kl_42 88 = some (.return_, [])) rfl (hQ _ hW)
  have hF := hX
  refine en_ic_eq (by decide +kernel : u_at kl_42 9 = some (.if_icmp .eq 14, [23])) (fun b5 => ?_) (fun b5 => ?_)
  · replace hF := i_pos b5 hF
    refine en_segs [(23, .iload_n 1, []), (24, .bipush 12, [])] (by decide +kernel) (y := (26, [some (.ref a0), some (.int p1)], [.int 12, .int p1], h)) rfl ?_
    refine en_ic_lt (by decide +kernel : u_at kl_42 26 = some (.if_icmp .lt 14, [40])) (fun b6 => ?_) (fun b6 => ?_)
    · replace hF := i_pos b6 hF
      refine en_segs [(40, .aload_n 0, [])] (by decide +kernel) (y := (41, [some (.ref a0), some (.int p1)], [.ref a0], h)) rfl ?_
      refine en_get (by decide +kernel : u_at kl_42 41 = some (.getfield 21, [5, 0])) hW ha0 (by decide) rfl ?_
      obtain ⟨r7, hr7, hF⟩ := ob_some hF
      refine en_vv (r := []) (by decide +kernel : u_at kl_42 44 = some (.invokevirtual 66, [31, 0, 3])) hW k1 rfl rfl (Nat.le_of_ble_eq_true rfl) (e_31 (D := D) (by omega) hW k1 hr7) (fun h hW => ?_)
      have hW : HW (mkw c0 c1 c2 r7 c4 c5 c6 c7 c8 c9 c10 c11 c12 c13) d h := hW
      refine en_segs [(47, .aload_n 0, [])] (by decide +kernel) (y := (48, [some (.ref a0), some (.int p1)], [.ref a0], h)) rfl ?_
      obtain ⟨r8, hr8, hF⟩ := ob_some hF
      refine en_vv (r := []) (by decide +kernel : u_at kl_42 48 = some (.invokevirtual 69, [48, 0, 5])) hW ha0 rfl rfl (Nat.le_of_ble_eq_true rfl) (e_48 (D := D) (by omega) hW ha0 hr8) (fun h hW => ?_)
      have hW : HW (mkw c0 c1 c2 r8.1 c4 r8.2 c6 c7 c8 c9 c10 c11 c12 c13) d h := hW
      refine en_segs [(51, .aload_n 0, [])] (by decide +kernel) (y := (52, [some (.ref a0), some (.int p1)], [.ref a0], h)) rfl ?_
      refine en_get (by decide +kernel : u_at kl_42 52 = some (.getfield 15, [5, 4])) hW ha0 (by decide) rfl ?_
      refine en_segs [(55, .iload_n 1, []), (56, .aload_n 0, [])] (by decide +kernel) (y := (57, [some (.ref a0), some (.int p1)], [.ref a0, .int p1, .ref (aP d 5 4 a0)], h)) rfl ?_
      refine en_get (by decide +kernel : u_at kl_42 57 = some (.getfield 31, [5, 2])) hW ha0 (by decide) rfl ?_
      obtain ⟨c5_9, hc5_9, hF⟩ := ob_some hF
      refine en_iast (by decide +kernel : u_at kl_42 60 = some (.iastore, [])) hW ha0 rfl (by decide) hc5_9 (fun h hW => ?_)
      have hW : HW (mkw c0 c1 c2 r8.1 c4 c5_9 c6 c7 c8 c9 c10 c11 c12 c13) d h := hW
      refine en_segs [(61, .aload_n 0, [])] (by decide +kernel) (y := (62, [some (.ref a0), some (.int p1)], [.ref a0], h)) rfl ?_
      have k10 : aK d (cR c5_9 0 a0) = (0, 3, 0) := wf_obj hW ha0 (by decide) rfl
      refine en_get (by decide +kernel : u_at kl_42 62 = some (.getfield 21, [5, 0])) hW ha0 (by decide) rfl ?_
      refine en_segs [(65, .bipush 19, [])] (by decide +kernel) (y := (67, [some (.ref a0), some (.int p1)], [.int 19, .ref (cR c5_9 0 a0)], h)) rfl ?_
      obtain ⟨r11, hr11, hF⟩ := ob_some hF
      refine en_vi (r := []) (by decide +kernel : u_at kl_42 67 = some (.invokevirtual 72, [32, 1, 3])) hW k10 rfl rfl (Nat.le_of_ble_eq_true rfl) (e_32 (D := D) (by omega) hW k10 hr11) (fun h hW => ?_)
      have hW : HW (mkw c0 c1 c2 r11.2 c4 c5_9 c6 c7 c8 c9 c10 c11 c12 c13) d h := hW
      obtain ⟨t12, hX, hK⟩ := ob_some hF
      have j13 : ∀ h : UH, HW (mkw c0 c1 c2 t12.1 c4 t12.2 c6 c7 c8 c9 c10 c11 c12 c13) d h → Ends (EX D) (u_at kl_42) (78, [some (.ref a0), some (.int p1)], [], h) QQ := by
        intro h hW
        have hF := hK
        refine en_segs [(78, .aload_n 0, [])] (by decide +kernel) (y := (79, [some (.ref a0), some (.int p1)], [.ref a0], h)) rfl ?_
        refine en_get (by decide +kernel : u_at kl_42 79 = some (.getfield 18, [5, 5])) hW ha0 (by decide) rfl ?_
        refine en_segs [(82, .iload_n 1, []), (83, .aload_n 0, [])] (by decide +kernel) (y := (84, [some (.ref a0), some (.int p1)], [.ref a0, .int p1, .ref (aP d 5 5 a0)], h)) rfl ?_
        refine en_get (by decide +kernel : u_at kl_42 84 = some (.getfield 31, [5, 2])) hW ha0 (by decide) rfl ?_
        obtain ⟨c5_14, hc5_14, hF⟩ := ob_some hF
        refine en_iast (by decide +kernel : u_at kl_42 87 = some (.iastore, [])) hW ha0 rfl (by decide) hc5_14 (fun h hW => ?_)
        have hW : HW (mkw c0 c1 c2 t12.1 c4 c5_14 c6 c7 c8 c9 c10 c11 c12 c13) d h := hW
        obtain rfl := Option.some.inj hF
        exact j4 _ hW
      have hF := hX
      refine en_if_eq (by decide +kernel : u_at kl_42 70 = some (.ifCond .eq 8, [78])) (fun b15 => ?_) (fun b15 => ?_)
      · replace hF := i_pos b15 hF
        obtain rfl := Option.some.inj hF
        exact j13 _ hW
      · replace hF := i_neg b15 hF
        refine en_segs [(73, .aload_n 0, []), (74, .iconst 0, [])] (by decide +kernel) (y := (75, [some (.ref a0), some (.int p1)], [.int 0, .ref a0], h)) rfl ?_
        obtain ⟨r16, hr16, hF⟩ := ob_some hF
        refine en_vv (r := []) (by decide +kernel : u_at kl_42 75 = some (.invokevirtual 76, [44, 1, 5])) hW ha0 rfl rfl (Nat.le_of_ble_eq_true rfl) (e_44 (D := D) (by omega) hW ha0 hr16) (fun h hW => ?_)
        have hW : HW (mkw c0 c1 c2 r16.1 c4 r16.2 c6 c7 c8 c9 c10 c11 c12 c13) d h := hW
        obtain rfl := Option.some.inj hF
        exact j13 _ hW
    · replace hF := i_neg b6 hF
      refine en_segs [(29, .aload_n 0, [])] (by decide +kernel) (y := (30, [some (.ref a0), some (.int p1)], [.ref a0], h)) rfl ?_
      refine en_get (by decide +kernel : u_at kl_42 30 = some (.getfield 21, [5, 0])) hW ha0 (by decide) rfl ?_
      refine en_segs [(33, .iconst 4, [])] (by decide +kernel) (y := (34, [some (.ref a0), some (.int p1)], [.int 4, .ref (cR c5 0 a0)], h)) rfl ?_
      obtain ⟨r17, hr17, hF⟩ := ob_some hF
      refine en_vv (r := []) (by decide +kernel : u_at kl_42 34 = some (.invokevirtual 63, [28, 1, 3])) hW k1 rfl rfl (Nat.le_of_ble_eq_true rfl) (e_28 (D := D) (by omega) hW k1 hr17) (fun h hW => ?_)
      have hW : HW (mkw c0 c1 c2 r17 c4 c5 c6 c7 c8 c9 c10 c11 c12 c13) d h := hW
      refine en_segs [(37, .goto 51, [88])] (by decide +kernel) (y := (88, [some (.ref a0), some (.int p1)], [], h)) rfl ?_
      obtain rfl := Option.some.inj hF
      exact j4 _ hW
  · replace hF := i_neg b5 hF
    refine en_segs [(12, .aload_n 0, [])] (by decide +kernel) (y := (13, [some (.ref a0), some (.int p1)], [.ref a0], h)) rfl ?_
    refine en_get (by decide +kernel : u_at kl_42 13 = some (.getfield 21, [5, 0])) hW ha0 (by decide) rfl ?_
    refine en_segs [(16, .iconst 0, [])] (by decide +kernel) (y := (17, [some (.ref a0), some (.int p1)], [.int 0, .ref (cR c5 0 a0)], h)) rfl ?_
    obtain ⟨r18, hr18, hF⟩ := ob_some hF
    refine en_vv (r := []) (by decide +kernel : u_at kl_42 17 = some (.invokevirtual 63, [28, 1, 3])) hW k1 rfl rfl (Nat.le_of_ble_eq_true rfl) (e_28 (D := D) (by omega) hW k1 hr18) (fun h hW => ?_)
    have hW : HW (mkw c0 c1 c2 r18 c4 c5 c6 c7 c8 c9 c10 c11 c12 c13) d h := hW
    refine en_segs [(20, .goto 68, [88])] (by decide +kernel) (y := (88, [some (.ref a0), some (.int p1)], [], h)) rfl ?_
    obtain rfl := Option.some.inj hF
    exact j4 _ hW
def F_146 (c0 : Cl) (c1 : Cl) (c6 : Cl) (c8 : Cl) (c10 : Cl) (c11 : Cl) (c13 : Cl) (d : Ad) (a0 : Nat) (p1 : Int32) (p2 : Int32) (p3 : Int32) : Option (Int32 × Cl × Cl × Cl) :=
  F_159 c1 c8 c10 c11 a0 p1 >>= fun r1 =>
  if r1 = 0 then
  some ((-1), c0, c6, c13)
  else
  F_160 c1 c8 c10 c11 a0 p2 >>= fun r3 =>
  if r3 = 0 then
  some ((-1), c0, c6, c13)
  else
  ald (cA c8 4 (cR c10 0 (cR c11 7 a0))) 6 p1 >>= fun v7 =>
  if p2 = v7 then
  some ((-1), c0, c6, c13)
  else
  if p3 < 0 then
  some ((-1), c0, c6, c13)
  else
  if p3 ≤ 6 then
  F_2 c0 c1 c6 c8 c13 d (cR c11 13 a0) (cR c10 0 (cR c11 7 a0)) p1 p2 >>= fun r12 =>
  if (cI r12.1 1 (cR c11 13 a0)) = (-2) then
  some ((-2), r12.1, r12.2.1, r12.2.2)
  else
  ((if p3 = 0 then
  some (cI r12.1 1 (cR c11 13 a0), r12.2.1)
  else
  F_3 r12.1 r12.2.1 (cR c11 13 a0) (p3 - 1) >>= fun r17 =>
  some (r17.1, r17.2)) : Option (Int32 × Cl)) >>= fun (t14 : Int32 × Cl) =>
  some (t14.1, r12.1, t14.2, r12.2.2)
  else
  some ((-1), c0, c6, c13)
set_option maxRecDepth 100000 in
set_option maxHeartbeats 4000000 in
/-- HeadCounts.secret -/
theorem e_146 {D : Nat} {c0 c1 c2 c3 c4 c5 c6 c7 c8 c9 c10 c11 c12 c13 : Cl} {d : Ad} {h : UH} {a0 : Nat} {p1 : Int32} {p2 : Int32} {p3 : Int32} {r : (Int32 × Cl × Cl × Cl)} (hD : 47 ≤ D) (hW : HW (mkw c0 c1 c2 c3 c4 c5 c6 c7 c8 c9 c10 c11 c12 c13) d h) (ha0 : aK d a0 = (0, 11, 0)) (hF : F_146 c0 c1 c6 c8 c10 c11 c13 d a0 p1 p2 p3 = some r) : ∃ q, EX D 146 [.ref a0, .int p1, .int p2, .int p3] h q ∧ q.1 = some (.int r.1) ∧ HW (mkw r.2.1 c1 c2 c3 c4 c5 r.2.2.1 c7 c8 c9 c10 c11 c12 r.2.2.2) d q.2 := by
  obtain ⟨D, rfl⟩ : ∃ E, D = E + 1 := ⟨D - 1, by omega⟩
  unfold F_146 at hF
  refine ex_in (kl := kl_146) (nL := 4) rfl (by decide +kernel) (Nat.le_of_ble_eq_true rfl) ?_
  obtain ⟨QQ, hQQ⟩ : ∃ QQ : UR → Prop, QQ = (fun q : UR => q.1 = some (.int r.1) ∧ HW (mkw r.2.1 c1 c2 c3 c4 c5 r.2.2.1 c7 c8 c9 c10 c11 c12 r.2.2.2) d q.2) := ⟨_, rfl⟩
  rw [← hQQ]
  have hQ : ∀ h' : UH, HW (mkw r.2.1 c1 c2 c3 c4 c5 r.2.2.1 c7 c8 c9 c10 c11 c12 r.2.2.2) d h' → QQ (some (.int r.1), h') := fun h' p => by rw [hQQ]; exact ⟨rfl, p⟩
  clear hQQ
  show Ends (EX D) (u_at kl_146) (0, [some (.ref a0), some (.int p1), some (.int p2), some (.int p3)], [], h) QQ
  refine en_segs [(0, .aload_n 0, []), (1, .iload_n 1, [])] (by decide +kernel) (y := (2, [some (.ref a0), some (.int p1), some (.int p2), some (.int p3)], [.int p1, .ref a0], h)) rfl ?_
  obtain ⟨r1, hr1, hF⟩ := ob_some hF
  refine en_vi (r := []) (by decide +kernel : u_at kl_146 2 = some (.invokevirtual 245, [159, 1, 11])) hW ha0 rfl rfl (Nat.le_of_ble_eq_true rfl) (e_159 (D := D) (by omega) hW ha0 hr1) (fun h' q => ?_)
  subst q
  refine en_if_eq (by decide +kernel : u_at kl_146 5 = some (.ifCond .eq 37, [42])) (fun b2 => ?_) (fun b2 => ?_)
  · replace hF := i_pos b2 hF
    refine en_segs [(42, .iconst (-1), [])] (by decide +kernel) (y := (43, [some (.ref a0), some (.int p1), some (.int p2), some (.int p3)], [.int (-1)], h)) rfl ?_
    obtain rfl := Option.some.inj hF
    exact en_ret (by decide +kernel : u_at kl_146 43 = some (.ireturn, [0])) rfl (hQ _ hW)
  · replace hF := i_neg b2 hF
    refine en_segs [(8, .aload_n 0, []), (9, .iload_n 2, [])] (by decide +kernel) (y := (10, [some (.ref a0), some (.int p1), some (.int p2), some (.int p3)], [.int p2, .ref a0], h)) rfl ?_
    obtain ⟨r3, hr3, hF⟩ := ob_some hF
    refine en_vi (r := []) (by decide +kernel : u_at kl_146 10 = some (.invokevirtual 161, [160, 1, 11])) hW ha0 rfl rfl (Nat.le_of_ble_eq_true rfl) (e_160 (D := D) (by omega) hW ha0 hr3) (fun h' q => ?_)
    subst q
    refine en_if_eq (by decide +kernel : u_at kl_146 13 = some (.ifCond .eq 29, [42])) (fun b4 => ?_) (fun b4 => ?_)
    · replace hF := i_pos b4 hF
      refine en_segs [(42, .iconst (-1), [])] (by decide +kernel) (y := (43, [some (.ref a0), some (.int p1), some (.int p2), some (.int p3)], [.int (-1)], h)) rfl ?_
      obtain rfl := Option.some.inj hF
      exact en_ret (by decide +kernel : u_at kl_146 43 = some (.ireturn, [0])) rfl (hQ _ hW)
    · replace hF := i_neg b4 hF
      refine en_segs [(16, .iload_n 2, []), (17, .aload_n 0, [])] (by decide +kernel) (y := (18, [some (.ref a0), some (.int p1), some (.int p2), some (.int p3)], [.ref a0, .int p2], h)) rfl ?_
      have k5 : aK d (cR c11 7 a0) = (0, 10, 0) := wf_obj hW ha0 (by decide) rfl
      refine en_get (by decide +kernel : u_at kl_146 18 = some (.getfield 52, [11, 7])) hW ha0 (by decide) rfl ?_
      have k6 : aK d (cR c10 0 (cR c11 7 a0)) = (0, 8, 0) := wf_obj hW k5 (by decide) rfl
      refine en_get (by decide +kernel : u_at kl_146 21 = some (.getfield 62, [10, 0])) hW k5 (by decide) rfl ?_
      refine en_get (by decide +kernel : u_at kl_146 24 = some (.getfield 139, [8, 4])) hW k6 (by decide) rfl ?_
      refine en_segs [(27, .iload_n 1, [])] (by decide +kernel) (y := (28, [some (.ref a0), some (.int p1), some (.int p2), some (.int p3)], [.int p1, .ref (aP d 8 4 (cR c10 0 (cR c11 7 a0))), .int p2], h)) rfl ?_
      obtain ⟨v7, hv7, hF⟩ := ob_some hF
      refine en_iald (by decide +kernel : u_at kl_146 28 = some (.iaload, [])) hW k6 rfl (by decide) hv7 ?_
      refine en_ic_eq (by decide +kernel : u_at kl_146 29 = some (.if_icmp .eq 13, [42])) (fun b8 => ?_) (fun b8 => ?_)
      · replace hF := i_pos b8 hF
        refine en_segs [(42, .iconst (-1), [])] (by decide +kernel) (y := (43, [some (.ref a0), some (.int p1), some (.int p2), some (.int p3)], [.int (-1)], h)) rfl ?_
        obtain rfl := Option.some.inj hF
        exact en_ret (by decide +kernel : u_at kl_146 43 = some (.ireturn, [0])) rfl (hQ _ hW)
      · replace hF := i_neg b8 hF
        refine en_segs [(32, .iload_n 3, [])] (by decide +kernel) (y := (33, [some (.ref a0), some (.int p1), some (.int p2), some (.int p3)], [.int p3], h)) rfl ?_
        refine en_if_lt (by decide +kernel : u_at kl_146 33 = some (.ifCond .lt 9, [42])) (fun b9 => ?_) (fun b9 => ?_)
        · replace hF := i_pos b9 hF
          refine en_segs [(42, .iconst (-1), [])] (by decide +kernel) (y := (43, [some (.ref a0), some (.int p1), some (.int p2), some (.int p3)], [.int (-1)], h)) rfl ?_
          obtain rfl := Option.some.inj hF
          exact en_ret (by decide +kernel : u_at kl_146 43 = some (.ireturn, [0])) rfl (hQ _ hW)
        · replace hF := i_neg b9 hF
          refine en_segs [(36, .iload_n 3, []), (37, .bipush 6, [])] (by decide +kernel) (y := (39, [some (.ref a0), some (.int p1), some (.int p2), some (.int p3)], [.int 6, .int p3], h)) rfl ?_
          refine en_ic_le (by decide +kernel : u_at kl_146 39 = some (.if_icmp .le 5, [44])) (fun b10 => ?_) (fun b10 => ?_)
          · replace hF := i_pos b10 hF
            refine en_segs [(44, .aload_n 0, [])] (by decide +kernel) (y := (45, [some (.ref a0), some (.int p1), some (.int p2), some (.int p3)], [.ref a0], h)) rfl ?_
            have k11 : aK d (cR c11 13 a0) = (0, 0, 0) := wf_obj hW ha0 (by decide) rfl
            refine en_get (by decide +kernel : u_at kl_146 45 = some (.getfield 93, [11, 13])) hW ha0 (by decide) rfl ?_
            refine en_segs [(48, .aload_n 0, [])] (by decide +kernel) (y := (49, [some (.ref a0), some (.int p1), some (.int p2), some (.int p3)], [.ref a0, .ref (cR c11 13 a0)], h)) rfl ?_
            refine en_get (by decide +kernel : u_at kl_146 49 = some (.getfield 52, [11, 7])) hW ha0 (by decide) rfl ?_
            refine en_get (by decide +kernel : u_at kl_146 52 = some (.getfield 62, [10, 0])) hW k5 (by decide) rfl ?_
            refine en_segs [(55, .iload_n 1, []), (56, .iload_n 2, [])] (by decide +kernel) (y := (57, [some (.ref a0), some (.int p1), some (.int p2), some (.int p3)], [.int p2, .int p1, .ref (cR c10 0 (cR c11 7 a0)), .ref (cR c11 13 a0)], h)) rfl ?_
            obtain ⟨r12, hr12, hF⟩ := ob_some hF
            refine en_vv (r := []) (by decide +kernel : u_at kl_146 57 = some (.invokevirtual 302, [2, 3, 0])) hW k11 rfl rfl (Nat.le_of_ble_eq_true rfl) (e_2 (D := D) (by omega) hW k11 k6 hr12) (fun h hW => ?_)
            have hW : HW (mkw r12.1 c1 c2 c3 c4 c5 r12.2.1 c7 c8 c9 c10 c11 c12 r12.2.2) d h := hW
            refine en_segs [(60, .aload_n 0, [])] (by decide +kernel) (y := (61, [some (.ref a0), some (.int p1), some (.int p2), some (.int p3)], [.ref a0], h)) rfl ?_
            refine en_get (by decide +kernel : u_at kl_146 61 = some (.getfield 93, [11, 13])) hW ha0 (by decide) rfl ?_
            refine en_get (by decide +kernel : u_at kl_146 64 = some (.getfield 306, [0, 1])) hW k11 (by decide) rfl ?_
            refine en_segs [(67, .bipush (-2), [])] (by decide +kernel) (y := (69, [some (.ref a0), some (.int p1), some (.int p2), some (.int p3)], [.int (-2), .int (cI r12.1 1 (cR c11 13 a0))], h)) rfl ?_
            refine en_ic_ne (by decide +kernel : u_at kl_146 69 = some (.if_icmp .ne 6, [75])) (fun b13 => ?_) (fun b13 => ?_)
            · replace hF := i_pos b13 hF
              refine en_segs [(72, .bipush (-2), [])] (by decide +kernel) (y := (74, [some (.ref a0), some (.int p1), some (.int p2), some (.int p3)], [.int (-2)], h)) rfl ?_
              obtain rfl := Option.some.inj hF
              exact en_ret (by decide +kernel : u_at kl_146 74 = some (.ireturn, [0])) rfl (hQ _ hW)
            · replace hF := i_neg b13 hF
              refine en_segs [(75, .iload_n 3, [])] (by decide +kernel) (y := (76, [some (.ref a0), some (.int p1), some (.int p2), some (.int p3)], [.int p3], h)) rfl ?_
              obtain ⟨t14, hX, hK⟩ := ob_some hF
              have j15 : ∀ h : UH, HW (mkw r12.1 c1 c2 c3 c4 c5 t14.2 c7 c8 c9 c10 c11 c12 r12.2.2) d h → Ends (EX D) (u_at kl_146) (99, [some (.ref a0), some (.int p1), some (.int p2), some (.int p3)], [.int t14.1], h) QQ := by
                intro h hW
                have hF := hK
                obtain rfl := Option.some.inj hF
                exact en_ret (by decide +kernel : u_at kl_146 99 = some (.ireturn, [0])) rfl (hQ _ hW)
              have hF := hX
              refine en_if_ne (by decide +kernel : u_at kl_146 76 = some (.ifCond .ne 13, [89])) (fun b16 => ?_) (fun b16 => ?_)
              · replace hF := i_pos b16 hF
                refine en_segs [(79, .aload_n 0, [])] (by decide +kernel) (y := (80, [some (.ref a0), some (.int p1), some (.int p2), some (.int p3)], [.ref a0], h)) rfl ?_
                refine en_get (by decide +kernel : u_at kl_146 80 = some (.getfield 93, [11, 13])) hW ha0 (by decide) rfl ?_
                refine en_get (by decide +kernel : u_at kl_146 83 = some (.getfield 306, [0, 1])) hW k11 (by decide) rfl ?_
                refine en_segs [(86, .goto 13, [99])] (by decide +kernel) (y := (99, [some (.ref a0), some (.int p1), some (.int p2), some (.int p3)], [.int (cI r12.1 1 (cR c11 13 a0))], h)) rfl ?_
                obtain rfl := Option.some.inj hF
                exact j15 _ hW
              · replace hF := i_neg b16 hF
                refine en_segs [(89, .aload_n 0, [])] (by decide +kernel) (y := (90, [some (.ref a0), some (.int p1), some (.int p2), some (.int p3)], [.ref a0], h)) rfl ?_
                refine en_get (by decide +kernel : u_at kl_146 90 = some (.getfield 93, [11, 13])) hW ha0 (by decide) rfl ?_
                refine en_segs [(93, .iload_n 3, []), (94, .iconst 1, []), (95, .isub, [])] (by decide +kernel) (y := (96, [some (.ref a0), some (.int p1), some (.int p2), some (.int p3)], [.int (p3 - 1), .ref (cR c11 13 a0)], h)) rfl ?_
                obtain ⟨r17, hr17, hF⟩ := ob_some hF
                refine en_vi (r := []) (by decide +kernel : u_at kl_146 96 = some (.invokevirtual 309, [3, 1, 0])) hW k11 rfl rfl (Nat.le_of_ble_eq_true rfl) (e_3 (D := D) (by omega) hW k11 hr17) (fun h hW => ?_)
                have hW : HW (mkw r12.1 c1 c2 c3 c4 c5 r17.2 c7 c8 c9 c10 c11 c12 r12.2.2) d h := hW
                obtain rfl := Option.some.inj hF
                exact j15 _ hW
          · replace hF := i_neg b10 hF
            refine en_segs [(42, .iconst (-1), [])] (by decide +kernel) (y := (43, [some (.ref a0), some (.int p1), some (.int p2), some (.int p3)], [.int (-1)], h)) rfl ?_
            obtain rfl := Option.some.inj hF
            exact en_ret (by decide +kernel : u_at kl_146 43 = some (.ireturn, [0])) rfl (hQ _ hW)
def F_147 (c0 : Cl) (c1 : Cl) (c6 : Cl) (c8 : Cl) (c10 : Cl) (c11 : Cl) (c13 : Cl) (d : Ad) (a0 : Nat) (p1 : Int32) (p2 : Int32) (p3 : Int32) : Option (Int32 × Cl × Cl × Cl × Ad) :=
  F_159 c1 c8 c10 c11 a0 p1 >>= fun r1 =>
  if r1 = 0 then
  some ((-1), c0, c6, c13, d)
  else
  F_160 c1 c8 c10 c11 a0 p2 >>= fun r3 =>
  if r3 = 0 then
  some ((-1), c0, c6, c13, d)
  else
  if p3 < 0 then
  some ((-1), c0, c6, c13, d)
  else
  if p3 ≤ 1 then
  F_4 c0 c1 c6 c8 c13 d (cR c11 13 a0) (cR c10 0 (cR c11 7 a0)) p1 p2 >>= fun r10 =>
  ((if p3 = 0 then
  some (cI r10.1 2 (cR c11 13 a0))
  else
  if 0 ≤ (cI r10.1 2 (cR c11 13 a0)) then
  some (cI r10.1 1 (cR c11 13 a0))
  else
  some (cI r10.1 2 (cR c11 13 a0))) : Option (Int32)) >>= fun (t13 : Int32) =>
  some (t13, r10.1, r10.2.1, r10.2.2.1, r10.2.2.2)
  else
  some ((-1), c0, c6, c13, d)
set_option maxRecDepth 100000 in
set_option maxHeartbeats 4000000 in
/-- HeadCounts.theft -/
theorem e_147 {D : Nat} {c0 c1 c2 c3 c4 c5 c6 c7 c8 c9 c10 c11 c12 c13 : Cl} {d : Ad} {h : UH} {a0 : Nat} {p1 : Int32} {p2 : Int32} {p3 : Int32} {r : (Int32 × Cl × Cl × Cl × Ad)} (hD : 47 ≤ D) (hW : HW (mkw c0 c1 c2 c3 c4 c5 c6 c7 c8 c9 c10 c11 c12 c13) d h) (ha0 : aK d a0 = (0, 11, 0)) (hF : F_147 c0 c1 c6 c8 c10 c11 c13 d a0 p1 p2 p3 = some r) : ∃ q, EX D 147 [.ref a0, .int p1, .int p2, .int p3] h q ∧ q.1 = some (.int r.1) ∧ HX d (mkw r.2.1 c1 c2 c3 c4 c5 r.2.2.1 c7 c8 c9 c10 c11 c12 r.2.2.2.1) r.2.2.2.2 q.2 := by
  obtain ⟨D, rfl⟩ : ∃ E, D = E + 1 := ⟨D - 1, by omega⟩
  unfold F_147 at hF
  refine ex_in (kl := kl_147) (nL := 4) rfl (by decide +kernel) (Nat.le_of_ble_eq_true rfl) ?_
  obtain ⟨QQ, hQQ⟩ : ∃ QQ : UR → Prop, QQ = (fun q : UR => q.1 = some (.int r.1) ∧ HX d (mkw r.2.1 c1 c2 c3 c4 c5 r.2.2.1 c7 c8 c9 c10 c11 c12 r.2.2.2.1) r.2.2.2.2 q.2) := ⟨_, rfl⟩
  rw [← hQQ]
  have hQ : ∀ h' : UH, HX d (mkw r.2.1 c1 c2 c3 c4 c5 r.2.2.1 c7 c8 c9 c10 c11 c12 r.2.2.2.1) r.2.2.2.2 h' → QQ (some (.int r.1), h') := fun h' p => by rw [hQQ]; exact ⟨rfl, p⟩
  clear hQQ
  show Ends (EX D) (u_at kl_147) (0, [some (.ref a0), some (.int p1), some (.int p2), some (.int p3)], [], h) QQ
  refine en_segs [(0, .aload_n 0, []), (1, .iload_n 1, [])] (by decide +kernel) (y := (2, [some (.ref a0), some (.int p1), some (.int p2), some (.int p3)], [.int p1, .ref a0], h)) rfl ?_
  obtain ⟨r1, hr1, hF⟩ := ob_some hF
  refine en_vi (r := []) (by decide +kernel : u_at kl_147 2 = some (.invokevirtual 245, [159, 1, 11])) hW ha0 rfl rfl (Nat.le_of_ble_eq_true rfl) (e_159 (D := D) (by omega) hW ha0 hr1) (fun h' q => ?_)
  subst q
  refine en_if_eq (by decide +kernel : u_at kl_147 5 = some (.ifCond .eq 20, [25])) (fun b2 => ?_) (fun b2 => ?_)
  · replace hF := i_pos b2 hF
    refine en_segs [(25, .iconst (-1), [])] (by decide +kernel) (y := (26, [some (.ref a0), some (.int p1), some (.int p2), some (.int p3)], [.int (-1)], h)) rfl ?_
    obtain rfl := Option.some.inj hF
    exact en_ret (by decide +kernel : u_at kl_147 26 = some (.ireturn, [0])) rfl (hQ _ ⟨hW, Adx.rf⟩)
  · replace hF := i_neg b2 hF
    refine en_segs [(8, .aload_n 0, []), (9, .iload_n 2, [])] (by decide +kernel) (y := (10, [some (.ref a0), some (.int p1), some (.int p2), some (.int p3)], [.int p2, .ref a0], h)) rfl ?_
    obtain ⟨r3, hr3, hF⟩ := ob_some hF
    refine en_vi (r := []) (by decide +kernel : u_at kl_147 10 = some (.invokevirtual 161, [160, 1, 11])) hW ha0 rfl rfl (Nat.le_of_ble_eq_true rfl) (e_160 (D := D) (by omega) hW ha0 hr3) (fun h' q => ?_)
    subst q
    refine en_if_eq (by decide +kernel : u_at kl_147 13 = some (.ifCond .eq 12, [25])) (fun b4 => ?_) (fun b4 => ?_)
    · replace hF := i_pos b4 hF
      refine en_segs [(25, .iconst (-1), [])] (by decide +kernel) (y := (26, [some (.ref a0), some (.int p1), some (.int p2), some (.int p3)], [.int (-1)], h)) rfl ?_
      obtain rfl := Option.some.inj hF
      exact en_ret (by decide +kernel : u_at kl_147 26 = some (.ireturn, [0])) rfl (hQ _ ⟨hW, Adx.rf⟩)
    · replace hF := i_neg b4 hF
      refine en_segs [(16, .iload_n 3, [])] (by decide +kernel) (y := (17, [some (.ref a0), some (.int p1), some (.int p2), some (.int p3)], [.int p3], h)) rfl ?_
      refine en_if_lt (by decide +kernel : u_at kl_147 17 = some (.ifCond .lt 8, [25])) (fun b5 => ?_) (fun b5 => ?_)
      · replace hF := i_pos b5 hF
        refine en_segs [(25, .iconst (-1), [])] (by decide +kernel) (y := (26, [some (.ref a0), some (.int p1), some (.int p2), some (.int p3)], [.int (-1)], h)) rfl ?_
        obtain rfl := Option.some.inj hF
        exact en_ret (by decide +kernel : u_at kl_147 26 = some (.ireturn, [0])) rfl (hQ _ ⟨hW, Adx.rf⟩)
      · replace hF := i_neg b5 hF
        refine en_segs [(20, .iload_n 3, []), (21, .iconst 1, [])] (by decide +kernel) (y := (22, [some (.ref a0), some (.int p1), some (.int p2), some (.int p3)], [.int 1, .int p3], h)) rfl ?_
        refine en_ic_le (by decide +kernel : u_at kl_147 22 = some (.if_icmp .le 5, [27])) (fun b6 => ?_) (fun b6 => ?_)
        · replace hF := i_pos b6 hF
          refine en_segs [(27, .aload_n 0, [])] (by decide +kernel) (y := (28, [some (.ref a0), some (.int p1), some (.int p2), some (.int p3)], [.ref a0], h)) rfl ?_
          have k7 : aK d (cR c11 13 a0) = (0, 0, 0) := wf_obj hW ha0 (by decide) rfl
          refine en_get (by decide +kernel : u_at kl_147 28 = some (.getfield 93, [11, 13])) hW ha0 (by decide) rfl ?_
          refine en_segs [(31, .aload_n 0, [])] (by decide +kernel) (y := (32, [some (.ref a0), some (.int p1), some (.int p2), some (.int p3)], [.ref a0, .ref (cR c11 13 a0)], h)) rfl ?_
          have k8 : aK d (cR c11 7 a0) = (0, 10, 0) := wf_obj hW ha0 (by decide) rfl
          refine en_get (by decide +kernel : u_at kl_147 32 = some (.getfield 52, [11, 7])) hW ha0 (by decide) rfl ?_
          have k9 : aK d (cR c10 0 (cR c11 7 a0)) = (0, 8, 0) := wf_obj hW k8 (by decide) rfl
          refine en_get (by decide +kernel : u_at kl_147 35 = some (.getfield 62, [10, 0])) hW k8 (by decide) rfl ?_
          refine en_segs [(38, .iload_n 1, []), (39, .iload_n 2, [])] (by decide +kernel) (y := (40, [some (.ref a0), some (.int p1), some (.int p2), some (.int p3)], [.int p2, .int p1, .ref (cR c10 0 (cR c11 7 a0)), .ref (cR c11 13 a0)], h)) rfl ?_
          obtain ⟨r10, hr10, hF⟩ := ob_some hF
          refine en_vv (r := []) (by decide +kernel : u_at kl_147 40 = some (.invokevirtual 312, [4, 3, 0])) hW k7 rfl rfl (Nat.le_of_ble_eq_true rfl) (e_4 (D := D) (by omega) hW k7 k9 hr10) (fun h q => ?_)
          obtain ⟨hW, X11⟩ := q
          have ha0 := X11.o ha0
          have k7 := X11.o k7
          have k8 := X11.o k8
          have k9 := X11.o k9
          have A12 := X11
          have hW : HW (mkw r10.1 c1 c2 c3 c4 c5 r10.2.1 c7 c8 c9 c10 c11 c12 r10.2.2.1) r10.2.2.2 h := hW
          refine en_segs [(43, .iload_n 3, [])] (by decide +kernel) (y := (44, [some (.ref a0), some (.int p1), some (.int p2), some (.int p3)], [.int p3], h)) rfl ?_
          obtain ⟨t13, hX, hK⟩ := ob_some hF
          have j14 : ∀ h : UH, HW (mkw r10.1 c1 c2 c3 c4 c5 r10.2.1 c7 c8 c9 c10 c11 c12 r10.2.2.1) r10.2.2.2 h → Ends (EX D) (u_at kl_147) (74, [some (.ref a0), some (.int p1), some (.int p2), some (.int p3)], [.int t13], h) QQ := by
            intro h hW
            have hF := hK
            obtain rfl := Option.some.inj hF
            exact en_ret (by decide +kernel : u_at kl_147 74 = some (.ireturn, [0])) rfl (hQ _ ⟨hW, A12⟩)
          have hF := hX
          refine en_if_eq (by decide +kernel : u_at kl_147 44 = some (.ifCond .eq 13, [57])) (fun b15 => ?_) (fun b15 => ?_)
          · replace hF := i_pos b15 hF
            refine en_segs [(57, .aload_n 0, [])] (by decide +kernel) (y := (58, [some (.ref a0), some (.int p1), some (.int p2), some (.int p3)], [.ref a0], h)) rfl ?_
            refine en_get (by decide +kernel : u_at kl_147 58 = some (.getfield 93, [11, 13])) hW ha0 (by decide) rfl ?_
            refine en_get (by decide +kernel : u_at kl_147 61 = some (.getfield 315, [0, 2])) hW k7 (by decide) rfl ?_
            refine en_segs [(64, .goto 10, [74])] (by decide +kernel) (y := (74, [some (.ref a0), some (.int p1), some (.int p2), some (.int p3)], [.int (cI r10.1 2 (cR c11 13 a0))], h)) rfl ?_
            obtain rfl := Option.some.inj hF
            exact j14 _ hW
          · replace hF := i_neg b15 hF
            refine en_segs [(47, .aload_n 0, [])] (by decide +kernel) (y := (48, [some (.ref a0), some (.int p1), some (.int p2), some (.int p3)], [.ref a0], h)) rfl ?_
            refine en_get (by decide +kernel : u_at kl_147 48 = some (.getfield 93, [11, 13])) hW ha0 (by decide) rfl ?_
            refine en_get (by decide +kernel : u_at kl_147 51 = some (.getfield 315, [0, 2])) hW k7 (by decide) rfl ?_
            refine en_if_ge (by decide +kernel : u_at kl_147 54 = some (.ifCond .ge 13, [67])) (fun b16 => ?_) (fun b16 => ?_)
            · replace hF := i_pos b16 hF
              refine en_segs [(67, .aload_n 0, [])] (by decide +kernel) (y := (68, [some (.ref a0), some (.int p1), some (.int p2), some (.int p3)], [.ref a0], h)) rfl ?_
              refine en_get (by decide +kernel : u_at kl_147 68 = some (.getfield 93, [11, 13])) hW ha0 (by decide) rfl ?_
              refine en_get (by decide +kernel : u_at kl_147 71 = some (.getfield 306, [0, 1])) hW k7 (by decide) rfl ?_
              obtain rfl := Option.some.inj hF
              exact j14 _ hW
            · replace hF := i_neg b16 hF
              refine en_segs [(57, .aload_n 0, [])] (by decide +kernel) (y := (58, [some (.ref a0), some (.int p1), some (.int p2), some (.int p3)], [.ref a0], h)) rfl ?_
              refine en_get (by decide +kernel : u_at kl_147 58 = some (.getfield 93, [11, 13])) hW ha0 (by decide) rfl ?_
              refine en_get (by decide +kernel : u_at kl_147 61 = some (.getfield 315, [0, 2])) hW k7 (by decide) rfl ?_
              refine en_segs [(64, .goto 10, [74])] (by decide +kernel) (y := (74, [some (.ref a0), some (.int p1), some (.int p2), some (.int p3)], [.int (cI r10.1 2 (cR c11 13 a0))], h)) rfl ?_
              obtain rfl := Option.some.inj hF
              exact j14 _ hW
        · replace hF := i_neg b6 hF
          refine en_segs [(25, .iconst (-1), [])] (by decide +kernel) (y := (26, [some (.ref a0), some (.int p1), some (.int p2), some (.int p3)], [.int (-1)], h)) rfl ?_
          obtain rfl := Option.some.inj hF
          exact en_ret (by decide +kernel : u_at kl_147 26 = some (.ireturn, [0])) rfl (hQ _ ⟨hW, Adx.rf⟩)
