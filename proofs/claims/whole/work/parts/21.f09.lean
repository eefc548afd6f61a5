def G_291 (c12 : Cl) (a0 : Nat) (lab : Nat) (xs : List Int32) (ys : List Int64) (zs : List Nat) : Option Int32 := match lab, xs, ys, zs with
  | 0, [x1, x2, x3], [], [] =>
    ald (cA c12 20 a0) 221 2 >>= fun v5 =>
    if v5 ≤ x3 then
    some x2
    else
    G_291 c12 a0 1 [x1, x2, x3, x3 + 1] [] []
  | 1, [x1, x2, x3, x4], [], [] =>
    ald (cA c12 20 a0) 221 2 >>= fun v7 =>
    if v7 ≤ x4 then
    G_291 c12 a0 0 [x1, x2, x3 + 1] [] []
    else
    F_224 c12 a0 x3 >>= fun r9 =>
    if r9 = 0 then
    G_291 c12 a0 1 [x1, x2, x3, x4 + 1] [] []
    else
    F_224 c12 a0 x4 >>= fun r11 =>
    if r11 = 0 then
    G_291 c12 a0 1 [x1, x2, x3, x4 + 1] [] []
    else
    F_223 c12 a0 x3 0 >>= fun r13 =>
    F_232 c12 a0 r13 >>= fun r14 =>
    F_223 c12 a0 x4 0 >>= fun r15 =>
    F_171 r14 r15 >>= fun r16 =>
    if r16 = 0 then
    G_291 c12 a0 1 [x1, x2, x3, x4 + 1] [] []
    else
    F_223 c12 a0 x3 1 >>= fun r18 =>
    F_223 c12 a0 x4 1 >>= fun r19 =>
    ((if r18 = r19 then
    some 0
    else
    F_223 c12 a0 x3 0 >>= fun r27 =>
    F_286 c12 a0 r27 >>= fun r28 =>
    F_223 c12 a0 x4 0 >>= fun r29 =>
    F_286 c12 a0 r29 >>= fun r30 =>
    if r28 = r30 then
    some 0
    else
    some 1) : Option (Int32)) >>= fun (t20 : Int32) =>
    ((if x1 = 1 then
    some 1
    else
    if t20 = 0 then
    some 1
    else
    some 0) : Option (Int32)) >>= fun (t22 : Int32) =>
    G_291 c12 a0 1 [x1, x2 + t22, x3, x4 + 1] [] []
  | _, _, _, _ => none
partial_fixpoint
set_option maxRecDepth 100000 in
set_option maxHeartbeats 4000000 in
theorem g_291 {D : Nat} (hD : 3 ≤ D + 1) {c0 c1 c2 c3 c4 c5 c6 c7 c8 c9 c10 c11 c12 c13 : Cl} {d : Ad} {a0 : Nat} (ha0 : aK d a0 = (0, 12, 0)) : ∀ (lab : Nat) (xs : List Int32) (ys : List Int64) (zs : List Nat) (r : Int32), G_291 c12 a0 lab xs ys zs = some r →
    (∀ (x1 : Int32) (x2 : Int32) (x3 : Int32), lab = 0 → xs = [x1, x2, x3] → ys = [] → zs = [] → ∀ h : UH, HW (mkw c0 c1 c2 c3 c4 c5 c6 c7 c8 c9 c10 c11 c12 c13) d h → ∀ QQ : UR → Prop, QQ (some (.int r), h) → Ends (EX D) (u_at kl_291) (23, [some (.ref a0), some (.int x1), some (.int x2), some (.int x3), none, none], [], h) QQ) ∧
    (∀ (x1 : Int32) (x2 : Int32) (x3 : Int32) (x4 : Int32), lab = 1 → xs = [x1, x2, x3, x4] → ys = [] → zs = [] → ∀ h : UH, HW (mkw c0 c1 c2 c3 c4 c5 c6 c7 c8 c9 c10 c11 c12 c13) d h → ∀ QQ : UR → Prop, QQ (some (.int r), h) → Ends (EX D) (u_at kl_291) (38, [some (.ref a0), some (.int x1), some (.int x2), some (.int x3), some (.int x4), none], [], h) QQ) := by
  refine G_291.partial_correctness _ _ (motive := fun lab xs ys zs r =>
    (∀ (x1 : Int32) (x2 : Int32) (x3 : Int32), lab = 0 → xs = [x1, x2, x3] → ys = [] → zs = [] → ∀ h : UH, HW (mkw c0 c1 c2 c3 c4 c5 c6 c7 c8 c9 c10 c11 c12 c13) d h → ∀ QQ : UR → Prop, QQ (some (.int r), h) → Ends (EX D) (u_at kl_291) (23, [some (.ref a0), some (.int x1), some (.int x2), some (.int x3), none, none], [], h) QQ) ∧
    (∀ (x1 : Int32) (x2 : Int32) (x3 : Int32) (x4 : Int32), lab = 1 → xs = [x1, x2, x3, x4] → ys = [] → zs = [] → ∀ h : UH, HW (mkw c0 c1 c2 c3 c4 c5 c6 c7 c8 c9 c10 c11 c12 c13) d h → ∀ QQ : UR → Prop, QQ (some (.int r), h) → Ends (EX D) (u_at kl_291) (38, [some (.ref a0), some (.int x1), some (.int x2), some (.int x3), some (.int x4), none], [], h) QQ)) ?_
  intro G ih lab xs ys zs r hF
  refine ⟨?_, ?_⟩
  · intro x1 x2 x3 e1 e2 e3 e4 h hW QQ hQ
    subst e1 e2 e3 e4
    refine en_segs [(23, .iload_n 3, []), (24, .aload_n 0, [])] (by decide +kernel) (y := (25, [some (.ref a0), some (.int x1), some (.int x2), some (.int x3), none, none], [.ref a0, .int x3], h)) rfl ?_
    refine en_get (by decide +kernel : u_at kl_291 25 = some (.getfield 39, [12, 20])) hW ha0 (by decide) rfl ?_
    refine en_segs [(28, .iconst 2, [])] (by decide +kernel) (y := (29, [some (.ref a0), some (.int x1), some (.int x2), some (.int x3), none, none], [.int 2, .ref (aP d 12 20 a0), .int x3], h)) rfl ?_
    obtain ⟨v5, hv5, hF⟩ := ob_some hF
    refine en_iald (by decide +kernel : u_at kl_291 29 = some (.iaload, [])) hW ha0 rfl (by decide) hv5 ?_
    refine en_ic_ge (by decide +kernel : u_at kl_291 30 = some (.if_icmp .ge 139, [169])) (fun b6 => ?_) (fun b6 => ?_)
    · replace hF := i_pos b6 hF
      refine en_segs [(169, .iload_n 2, [])] (by decide +kernel) (y := (170, [some (.ref a0), some (.int x1), some (.int x2), some (.int x3), none, none], [.int x2], h)) rfl ?_
      obtain rfl := Option.some.inj hF
      exact en_ret (by decide +kernel : u_at kl_291 170 = some (.ireturn, [0])) rfl (hQ)
    · replace hF := i_neg b6 hF
      refine en_segs [(33, .iload_n 3, []), (34, .iconst 1, []), (35, .iadd, []), (36, .istore 4, [])] (by decide +kernel) (y := (38, [some (.ref a0), some (.int x1), some (.int x2), some (.int x3), some (.int (x3 + 1)), none], [], h)) rfl ?_
      exact (ih _ _ _ _ _ hF).2 _ _ _ _ rfl rfl rfl rfl  _ hW _ hQ
  · intro x1 x2 x3 x4 e1 e2 e3 e4 h hW QQ hQ
    subst e1 e2 e3 e4
    refine en_segs [(38, .iload 4, []), (40, .aload_n 0, [])] (by decide +kernel) (y := (41, [some (.ref a0), some (.int x1), some (.int x2), some (.int x3), some (.int x4), none], [.ref a0, .int x4], h)) rfl ?_
    refine en_get (by decide +kernel : u_at kl_291 41 = some (.getfield 39, [12, 20])) hW ha0 (by decide) rfl ?_
    refine en_segs [(44, .iconst 2, [])] (by decide +kernel) (y := (45, [some (.ref a0), some (.int x1), some (.int x2), some (.int x3), some (.int x4), none], [.int 2, .ref (aP d 12 20 a0), .int x4], h)) rfl ?_
    obtain ⟨v7, hv7, hF⟩ := ob_some hF
    refine en_iald (by decide +kernel : u_at kl_291 45 = some (.iaload, [])) hW ha0 rfl (by decide) hv7 ?_
    refine en_ic_ge (by decide +kernel : u_at kl_291 46 = some (.if_icmp .ge 117, [163])) (fun b8 => ?_) (fun b8 => ?_)
    · replace hF := i_pos b8 hF
      refine en_segs [(163, .iinc 3 1, []), (166, .goto (-143), [23])] (by decide +kernel) (y := (23, [some (.ref a0), some (.int x1), some (.int x2), some (.int (x3 + 1)), some (.int x4), none], [], h)) rfl ?_
      refine en_fg (fg_k (fg_k (fg_k (fg_k (fg_d (fg_k fg_0)))))) ?_
      exact (ih _ _ _ _ _ hF).1 _ _ _ rfl rfl rfl rfl  _ hW _ hQ
    · replace hF := i_neg b8 hF
      refine en_segs [(49, .aload_n 0, []), (50, .iload_n 3, [])] (by decide +kernel) (y := (51, [some (.ref a0), some (.int x1), some (.int x2), some (.int x3), some (.int x4), none], [.int x3, .ref a0], h)) rfl ?_
      obtain ⟨r9, hr9, hF⟩ := ob_some hF
      refine en_vi (r := []) (by decide +kernel : u_at kl_291 51 = some (.invokevirtual 346, [224, 1, 12])) hW ha0 rfl rfl (Nat.le_of_ble_eq_true rfl) (e_224 (D := D) (by omega) hW ha0 hr9) (fun h' q => ?_)
      subst q
      refine en_if_eq (by decide +kernel : u_at kl_291 54 = some (.ifCond .eq 103, [157])) (fun b10 => ?_) (fun b10 => ?_)
      · replace hF := i_pos b10 hF
        refine en_segs [(157, .iinc 4 1, []), (160, .goto (-122), [38])] (by decide +kernel) (y := (38, [some (.ref a0), some (.int x1), some (.int x2), some (.int x3), some (.int (x4 + 1)), none], [], h)) rfl ?_
        exact (ih _ _ _ _ _ hF).2 _ _ _ _ rfl rfl rfl rfl  _ hW _ hQ
      · replace hF := i_neg b10 hF
        refine en_segs [(57, .aload_n 0, []), (58, .iload 4, [])] (by decide +kernel) (y := (60, [some (.ref a0), some (.int x1), some (.int x2), some (.int x3), some (.int x4), none], [.int x4, .ref a0], h)) rfl ?_
        obtain ⟨r11, hr11, hF⟩ := ob_some hF
        refine en_vi (r := []) (by decide +kernel : u_at kl_291 60 = some (.invokevirtual 346, [224, 1, 12])) hW ha0 rfl rfl (Nat.le_of_ble_eq_true rfl) (e_224 (D := D) (by omega) hW ha0 hr11) (fun h' q => ?_)
        subst q
        refine en_if_eq (by decide +kernel : u_at kl_291 63 = some (.ifCond .eq 94, [157])) (fun b12 => ?_) (fun b12 => ?_)
        · replace hF := i_pos b12 hF
          refine en_segs [(157, .iinc 4 1, []), (160, .goto (-122), [38])] (by decide +kernel) (y := (38, [some (.ref a0), some (.int x1), some (.int x2), some (.int x3), some (.int (x4 + 1)), none], [], h)) rfl ?_
          exact (ih _ _ _ _ _ hF).2 _ _ _ _ rfl rfl rfl rfl  _ hW _ hQ
        · replace hF := i_neg b12 hF
          refine en_segs [(66, .aload_n 0, []), (67, .aload_n 0, []), (68, .iload_n 3, []), (69, .iconst 0, [])] (by decide +kernel) (y := (70, [some (.ref a0), some (.int x1), some (.int x2), some (.int x3), some (.int x4), none], [.int 0, .int x3, .ref a0, .ref a0], h)) rfl ?_
          obtain ⟨r13, hr13, hF⟩ := ob_some hF
          refine en_vi (r := [.ref a0]) (by decide +kernel : u_at kl_291 70 = some (.invokevirtual 343, [223, 2, 12])) hW ha0 rfl rfl (Nat.le_of_ble_eq_true rfl) (e_223 (D := D) (by omega) hW ha0 hr13) (fun h' q => ?_)
          subst q
          obtain ⟨r14, hr14, hF⟩ := ob_some hF
          refine en_vi (r := []) (by decide +kernel : u_at kl_291 73 = some (.invokevirtual 378, [232, 1, 12])) hW ha0 rfl rfl (Nat.le_of_ble_eq_true rfl) (e_232 (D := D) (by omega) hW ha0 hr14) (fun h' q => ?_)
          subst q
          refine en_segs [(76, .aload_n 0, []), (77, .iload 4, []), (79, .iconst 0, [])] (by decide +kernel) (y := (80, [some (.ref a0), some (.int x1), some (.int x2), some (.int x3), some (.int x4), none], [.int 0, .int x4, .ref a0, .int r14], h)) rfl ?_
          obtain ⟨r15, hr15, hF⟩ := ob_some hF
          refine en_vi (r := [.int r14]) (by decide +kernel : u_at kl_291 80 = some (.invokevirtual 343, [223, 2, 12])) hW ha0 rfl rfl (Nat.le_of_ble_eq_true rfl) (e_223 (D := D) (by omega) hW ha0 hr15) (fun h' q => ?_)
          subst q
          obtain ⟨r16, hr16, hF⟩ := ob_some hF
          refine en_si (r := []) (by decide +kernel : u_at kl_291 83 = some (.invokestatic 361, [171, 2])) rfl rfl (Nat.le_of_ble_eq_true rfl) (e_171 (D := D) (by omega) hW hr16) (fun h' q => ?_)
          subst q
          refine en_if_ne (by decide +kernel : u_at kl_291 86 = some (.ifCond .ne 6, [92])) (fun b17 => ?_) (fun b17 => ?_)
          · replace hF := i_pos b17 hF
            refine en_segs [(89, .goto 68, [157]), (157, .iinc 4 1, []), (160, .goto (-122), [38])] (by decide +kernel) (y := (38, [some (.ref a0), some (.int x1), some (.int x2), some (.int x3), some (.int (x4 + 1)), none], [], h)) rfl ?_
            exact (ih _ _ _ _ _ hF).2 _ _ _ _ rfl rfl rfl rfl  _ hW _ hQ
          · replace hF := i_neg b17 hF
            refine en_segs [(92, .aload_n 0, []), (93, .iload_n 3, []), (94, .iconst 1, [])] (by decide +kernel) (y := (95, [some (.ref a0), some (.int x1), some (.int x2), some (.int x3), some (.int x4), none], [.int 1, .int x3, .ref a0], h)) rfl ?_
            obtain ⟨r18, hr18, hF⟩ := ob_some hF
            refine en_vi (r := []) (by decide +kernel : u_at kl_291 95 = some (.invokevirtual 343, [223, 2, 12])) hW ha0 rfl rfl (Nat.le_of_ble_eq_true rfl) (e_223 (D := D) (by omega) hW ha0 hr18) (fun h' q => ?_)
            subst q
            refine en_segs [(98, .aload_n 0, []), (99, .iload 4, []), (101, .iconst 1, [])] (by decide +kernel) (y := (102, [some (.ref a0), some (.int x1), some (.int x2), some (.int x3), some (.int x4), none], [.int 1, .int x4, .ref a0, .int r18], h)) rfl ?_
            obtain ⟨r19, hr19, hF⟩ := ob_some hF
            refine en_vi (r := [.int r18]) (by decide +kernel : u_at kl_291 102 = some (.invokevirtual 343, [223, 2, 12])) hW ha0 rfl rfl (Nat.le_of_ble_eq_true rfl) (e_223 (D := D) (by omega) hW ha0 hr19) (fun h' q => ?_)
            subst q
            obtain ⟨t20, hX, hK⟩ := ob_some hF
            have j21 : Ends (EX D) (u_at kl_291) (137, [some (.ref a0), some (.int x1), some (.int x2), some (.int x3), some (.int x4), none], [.int t20], h) QQ := by
              have hF := hK
              refine en_segs [(137, .istore 5, []), (139, .iload_n 2, []), (140, .iload_n 1, []), (141, .iconst 1, [])] (by decide +kernel) (y := (142, [some (.ref a0), some (.int x1), some (.int x2), some (.int x3), some (.int x4), some (.int t20)], [.int 1, .int x1, .int x2], h)) rfl ?_
              obtain ⟨t22, hX, hK⟩ := ob_some hF
              have j23 : Ends (EX D) (u_at kl_291) (155, [some (.ref a0), some (.int x1), some (.int x2), some (.int x3), some (.int x4), some (.int t20)], [.int t22, .int x2], h) QQ := by
                have hF := hK
                refine en_segs [(155, .iadd, []), (156, .istore_n 2, []), (157, .iinc 4 1, []), (160, .goto (-122), [38])] (by decide +kernel) (y := (38, [some (.ref a0), some (.int x1), some (.int (x2 + t22)), some (.int x3), some (.int (x4 + 1)), some (.int t20)], [], h)) rfl ?_
                refine en_fg (fg_k (fg_k (fg_k (fg_k (fg_k (fg_d fg_0)))))) ?_
                exact (ih _ _ _ _ _ hF).2 _ _ _ _ rfl rfl rfl rfl  _ hW _ hQ
              have hF := hX
              refine en_ic_eq (by decide +kernel : u_at kl_291 142 = some (.if_icmp .eq 8, [150])) (fun b24 => ?_) (fun b24 => ?_)
              · replace hF := i_pos b24 hF
                refine en_segs [(150, .iconst 1, []), (151, .goto 4, [155])] (by decide +kernel) (y := (155, [some (.ref a0), some (.int x1), some (.int x2), some (.int x3), some (.int x4), some (.int t20)], [.int 1, .int x2], h)) rfl ?_
                obtain rfl := Option.some.inj hF
                exact j23
              · replace hF := i_neg b24 hF
                refine en_segs [(145, .iload 5, [])] (by decide +kernel) (y := (147, [some (.ref a0), some (.int x1), some (.int x2), some (.int x3), some (.int x4), some (.int t20)], [.int t20, .int x2], h)) rfl ?_
                refine en_if_ne (by decide +kernel : u_at kl_291 147 = some (.ifCond .ne 7, [154])) (fun b25 => ?_) (fun b25 => ?_)
                · replace hF := i_pos b25 hF
                  refine en_segs [(150, .iconst 1, []), (151, .goto 4, [155])] (by decide +kernel) (y := (155, [some (.ref a0), some (.int x1), some (.int x2), some (.int x3), some (.int x4), some (.int t20)], [.int 1, .int x2], h)) rfl ?_
                  obtain rfl := Option.some.inj hF
                  exact j23
                · replace hF := i_neg b25 hF
                  refine en_segs [(154, .iconst 0, [])] (by decide +kernel) (y := (155, [some (.ref a0), some (.int x1), some (.int x2), some (.int x3), some (.int x4), some (.int t20)], [.int 0, .int x2], h)) rfl ?_
                  obtain rfl := Option.some.inj hF
                  exact j23
            have hF := hX
            refine en_ic_eq (by decide +kernel : u_at kl_291 105 = some (.if_icmp .eq 31, [136])) (fun b26 => ?_) (fun b26 => ?_)
            · replace hF := i_pos b26 hF
              refine en_segs [(136, .iconst 0, [])] (by decide +kernel) (y := (137, [some (.ref a0), some (.int x1), some (.int x2), some (.int x3), some (.int x4), none], [.int 0], h)) rfl ?_
              obtain rfl := Option.some.inj hF
              exact j21
            · replace hF := i_neg b26 hF
              refine en_segs [(108, .aload_n 0, []), (109, .aload_n 0, []), (110, .iload_n 3, []), (111, .iconst 0, [])] (by decide +kernel) (y := (112, [some (.ref a0), some (.int x1), some (.int x2), some (.int x3), some (.int x4), none], [.int 0, .int x3, .ref a0, .ref a0], h)) rfl ?_
              obtain ⟨r27, hr27, hF⟩ := ob_some hF
              refine en_vi (r := [.ref a0]) (by decide +kernel : u_at kl_291 112 = some (.invokevirtual 343, [223, 2, 12])) hW ha0 rfl rfl (Nat.le_of_ble_eq_true rfl) (e_223 (D := D) (by omega) hW ha0 hr27) (fun h' q => ?_)
              subst q
              obtain ⟨r28, hr28, hF⟩ := ob_some hF
              refine en_vi (r := []) (by decide +kernel : u_at kl_291 115 = some (.invokevirtual 520, [286, 1, 12])) hW ha0 rfl rfl (Nat.le_of_ble_eq_true rfl) (e_286 (D := D) (by omega) hW ha0 hr28) (fun h' q => ?_)
              subst q
              refine en_segs [(118, .aload_n 0, []), (119, .aload_n 0, []), (120, .iload 4, []), (122, .iconst 0, [])] (by decide +kernel) (y := (123, [some (.ref a0), some (.int x1), some (.int x2), some (.int x3), some (.int x4), none], [.int 0, .int x4, .ref a0, .ref a0, .int r28], h)) rfl ?_
              obtain ⟨r29, hr29, hF⟩ := ob_some hF
              refine en_vi (r := [.ref a0, .int r28]) (by decide +kernel : u_at kl_291 123 = some (.invokevirtual 343, [223, 2, 12])) hW ha0 rfl rfl (Nat.le_of_ble_eq_true rfl) (e_223 (D := D) (by omega) hW ha0 hr29) (fun h' q => ?_)
              subst q
              obtain ⟨r30, hr30, hF⟩ := ob_some hF
              refine en_vi (r := [.int r28]) (by decide +kernel : u_at kl_291 126 = some (.invokevirtual 520, [286, 1, 12])) hW ha0 rfl rfl (Nat.le_of_ble_eq_true rfl) (e_286 (D := D) (by omega) hW ha0 hr30) (fun h' q => ?_)
              subst q
              refine en_ic_eq (by decide +kernel : u_at kl_291 129 = some (.if_icmp .eq 7, [136])) (fun b31 => ?_) (fun b31 => ?_)
              · replace hF := i_pos b31 hF
                refine en_segs [(136, .iconst 0, [])] (by decide +kernel) (y := (137, [some (.ref a0), some (.int x1), some (.int x2), some (.int x3), some (.int x4), none], [.int 0], h)) rfl ?_
                obtain rfl := Option.some.inj hF
                exact j21
              · replace hF := i_neg b31 hF
                refine en_segs [(132, .iconst 1, []), (133, .goto 4, [137])] (by decide +kernel) (y := (137, [some (.ref a0), some (.int x1), some (.int x2), some (.int x3), some (.int x4), none], [.int 1], h)) rfl ?_
                obtain rfl := Option.some.inj hF
                exact j21
def F_291 (c12 : Cl) (a0 : Nat) (p1 : Int32) : Option Int32 :=
  F_218 c12 a0 >>= fun r1 =>
  if r1 = 0 then
  some (-1)
  else
  F_170 ((p1 : Int32).toInt64) 0 1 >>= fun r3 =>
  if r3 = 0 then
  some (-1)
  else
  G_291 c12 a0 0 [p1, 0, 0] [] []
set_option maxRecDepth 100000 in
set_option maxHeartbeats 4000000 in
/-- HeadCountsModel.swaps -/
theorem e_291 {D : Nat} {c0 c1 c2 c3 c4 c5 c6 c7 c8 c9 c10 c11 c12 c13 : Cl} {d : Ad} {h : UH} {a0 : Nat} {p1 : Int32} {r : Int32} (hD : 3 ≤ D) (hW : HW (mkw c0 c1 c2 c3 c4 c5 c6 c7 c8 c9 c10 c11 c12 c13) d h) (ha0 : aK d a0 = (0, 12, 0)) (hF : F_291 c12 a0 p1 = some r) : ∃ q, EX D 291 [.ref a0, .int p1] h q ∧ q.1 = some (.int r) ∧ h = q.2 := by
  obtain ⟨D, rfl⟩ : ∃ E, D = E + 1 := ⟨D - 1, by omega⟩
  unfold F_291 at hF
  refine ex_in (kl := kl_291) (nL := 6) rfl (by decide +kernel) (Nat.le_of_ble_eq_true rfl) ?_
  obtain ⟨QQ, hQQ⟩ : ∃ QQ : UR → Prop, QQ = (fun q : UR => q.1 = some (.int r) ∧ h = q.2) := ⟨_, rfl⟩
  rw [← hQQ]
  have hQ : QQ (some (.int r), h) := by rw [hQQ]; exact ⟨rfl, rfl⟩
  clear hQQ
  show Ends (EX D) (u_at kl_291) (0, [some (.ref a0), some (.int p1), none, none, none, none], [], h) QQ
  refine en_segs [(0, .aload_n 0, [])] (by decide +kernel) (y := (1, [some (.ref a0), some (.int p1), none, none, none, none], [.ref a0], h)) rfl ?_
  obtain ⟨r1, hr1, hF⟩ := ob_some hF
  refine en_vi (r := []) (by decide +kernel : u_at kl_291 1 = some (.invokevirtual 409, [218, 0, 12])) hW ha0 rfl rfl (Nat.le_of_ble_eq_true rfl) (e_218 (D := D) (by omega) hW ha0 hr1) (fun h' q => ?_)
  subst q
  refine en_if_eq (by decide +kernel : u_at kl_291 4 = some (.ifCond .eq 13, [17])) (fun b2 => ?_) (fun b2 => ?_)
  · replace hF := i_pos b2 hF
    refine en_segs [(17, .iconst (-1), [])] (by decide +kernel) (y := (18, [some (.ref a0), some (.int p1), none, none, none, none], [.int (-1)], h)) rfl ?_
    obtain rfl := Option.some.inj hF
    exact en_ret (by decide +kernel : u_at kl_291 18 = some (.ireturn, [0])) rfl (hQ)
  · replace hF := i_neg b2 hF
    refine en_segs [(7, .iload_n 1, []), (8, .i2l, []), (9, .lconst 0, []), (10, .lconst 1, [])] (by decide +kernel) (y := (11, [some (.ref a0), some (.int p1), none, none, none, none], [.long 1, .long 0, .long ((p1 : Int32).toInt64)], h)) rfl ?_
    obtain ⟨r3, hr3, hF⟩ := ob_some hF
    refine en_si (r := []) (by decide +kernel : u_at kl_291 11 = some (.invokestatic 161, [170, 3])) rfl rfl (Nat.le_of_ble_eq_true rfl) (e_170 (D := D) (by omega) hW hr3) (fun h' q => ?_)
    subst q
    refine en_if_ne (by decide +kernel : u_at kl_291 14 = some (.ifCond .ne 5, [19])) (fun b4 => ?_) (fun b4 => ?_)
    · replace hF := i_pos b4 hF
      refine en_segs [(17, .iconst (-1), [])] (by decide +kernel) (y := (18, [some (.ref a0), some (.int p1), none, none, none, none], [.int (-1)], h)) rfl ?_
      obtain rfl := Option.some.inj hF
      exact en_ret (by decide +kernel : u_at kl_291 18 = some (.ireturn, [0])) rfl (hQ)
    · replace hF := i_neg b4 hF
      refine en_segs [(19, .iconst 0, []), (20, .istore_n 2, []), (21, .iconst 0, []), (22, .istore_n 3, [])] (by decide +kernel) (y := (23, [some (.ref a0), some (.int p1), some (.int 0), some (.int 0), none, none], [], h)) rfl ?_
      exact (g_291 (D := D) hD ha0 _ _ _ _ _ hF).1 _ _ _ rfl rfl rfl rfl  _ hW _ hQ
def F_292 (c12 : Cl) (a0 : Nat) (p1 : Int32) : Option (Int32 × Cl) :=
  if 0 ≤ p1 then
  some (sI c12 21 a0 p1) >>= fun c12_2 =>
  some (cI c12 21 a0, c12_2)
  else
  some ((-1), c12)
set_option maxRecDepth 100000 in
set_option maxHeartbeats 4000000 in
/-- HeadCountsModel.seed -/
theorem e_292 {D : Nat} {c0 c1 c2 c3 c4 c5 c6 c7 c8 c9 c10 c11 c12 c13 : Cl} {d : Ad} {h : UH} {a0 : Nat} {p1 : Int32} {r : (Int32 × Cl)} (hD : 1 ≤ D) (hW : HW (mkw c0 c1 c2 c3 c4 c5 c6 c7 c8 c9 c10 c11 c12 c13) d h) (ha0 : aK d a0 = (0, 12, 0)) (hF : F_292 c12 a0 p1 = some r) : ∃ q, EX D 292 [.ref a0, .int p1] h q ∧ q.1 = some (.int r.1) ∧ HW (mkw c0 c1 c2 c3 c4 c5 c6 c7 c8 c9 c10 c11 r.2 c13) d q.2 := by
  obtain ⟨D, rfl⟩ : ∃ E, D = E + 1 := ⟨D - 1, by omega⟩
  unfold F_292 at hF
  refine ex_in (kl := kl_292) (nL := 3) rfl (by decide +kernel) (Nat.le_of_ble_eq_true rfl) ?_
  obtain ⟨QQ, hQQ⟩ : ∃ QQ : UR → Prop, QQ = (fun q : UR => q.1 = some (.int r.1) ∧ HW (mkw c0 c1 c2 c3 c4 c5 c6 c7 c8 c9 c10 c11 r.2 c13) d q.2) := ⟨_, rfl⟩
  rw [← hQQ]
  have hQ : ∀ h' : UH, HW (mkw c0 c1 c2 c3 c4 c5 c6 c7 c8 c9 c10 c11 r.2 c13) d h' → QQ (some (.int r.1), h') := fun h' p => by rw [hQQ]; exact ⟨rfl, p⟩
  clear hQQ
  show Ends (EX D) (u_at kl_292) (0, [some (.ref a0), some (.int p1), none], [], h) QQ
  refine en_segs [(0, .iload_n 1, [])] (by decide +kernel) (y := (1, [some (.ref a0), some (.int p1), none], [.int p1], h)) rfl ?_
  refine en_if_ge (by decide +kernel : u_at kl_292 1 = some (.ifCond .ge 5, [6])) (fun b1 => ?_) (fun b1 => ?_)
  · replace hF := i_pos b1 hF
    refine en_segs [(6, .aload_n 0, [])] (by decide +kernel) (y := (7, [some (.ref a0), some (.int p1), none], [.ref a0], h)) rfl ?_
    refine en_get (by decide +kernel : u_at kl_292 7 = some (.getfield 528, [12, 21])) hW ha0 (by decide) rfl ?_
    refine en_segs [(10, .istore_n 2, []), (11, .aload_n 0, []), (12, .iload_n 1, [])] (by decide +kernel) (y := (13, [some (.ref a0), some (.int p1), some (.int (cI c12 21 a0))], [.int p1, .ref a0], h)) rfl ?_
    obtain ⟨c12_2, hc12_2, hF⟩ := ob_some hF
    refine en_putI (by decide +kernel : u_at kl_292 13 = some (.putfield 528, [12, 21, 0])) hW ha0 rfl (by decide) rfl (fun h hW => ?_)
    have hW : HW (mkw c0 c1 c2 c3 c4 c5 c6 c7 c8 c9 c10 c11 c12_2 c13) d h := by rw [← Option.some.inj hc12_2]; exact hW
    refine en_segs [(16, .iload_n 2, [])] (by decide +kernel) (y := (17, [some (.ref a0), some (.int p1), some (.int (cI c12 21 a0))], [.int (cI c12 21 a0)], h)) rfl ?_
    obtain rfl := Option.some.inj hF
    exact en_ret (by decide +kernel : u_at kl_292 17 = some (.ireturn, [0])) rfl (hQ _ hW)
  · replace hF := i_neg b1 hF
    refine en_segs [(4, .iconst (-1), [])] (by decide +kernel) (y := (5, [some (.ref a0), some (.int p1), none], [.int (-1)], h)) rfl ?_
    obtain rfl := Option.some.inj hF
    exact en_ret (by decide +kernel : u_at kl_292 5 = some (.ireturn, [0])) rfl (hQ _ hW)
def F_293 (c12 : Cl) (a0 : Nat) (p1 : Int32) : Option (Int32 × Cl) :=
  lrm (((cJ c12 46 a0) * 1103515245) + 12345) 2147483648 >>= fun v1 =>
  some (sJ c12 46 a0 v1) >>= fun c12_2 =>
  ldv (cJ c12_2 46 a0) 65536 >>= fun v3 =>
  lrm v3 ((p1 : Int32).toInt64) >>= fun v4 =>
  some ((v4 : Int64).toInt32, c12_2)
set_option maxRecDepth 100000 in
set_option maxHeartbeats 4000000 in
/-- HeadCountsModel.draw -/
theorem e_293 {D : Nat} {c0 c1 c2 c3 c4 c5 c6 c7 c8 c9 c10 c11 c12 c13 : Cl} {d : Ad} {h : UH} {a0 : Nat} {p1 : Int32} {r : (Int32 × Cl)} (hD : 1 ≤ D) (hW : HW (mkw c0 c1 c2 c3 c4 c5 c6 c7 c8 c9 c10 c11 c12 c13) d h) (ha0 : aK d a0 = (0, 12, 0)) (hF : F_293 c12 a0 p1 = some r) : ∃ q, EX D 293 [.ref a0, .int p1] h q ∧ q.1 = some (.int r.1) ∧ HW (mkw c0 c1 c2 c3 c4 c5 c6 c7 c8 c9 c10 c11 r.2 c13) d q.2 := by
  obtain ⟨D, rfl⟩ : ∃ E, D = E + 1 := ⟨D - 1, by omega⟩
  unfold F_293 at hF
  refine ex_in (kl := kl_293) (nL := 2) rfl (by decide +kernel) (Nat.le_of_ble_eq_true rfl) ?_
  obtain ⟨QQ, hQQ⟩ : ∃ QQ : UR → Prop, QQ = (fun q : UR => q.1 = some (.int r.1) ∧ HW (mkw c0 c1 c2 c3 c4 c5 c6 c7 c8 c9 c10 c11 r.2 c13) d q.2) := ⟨_, rfl⟩
  rw [← hQQ]
  have hQ : ∀ h' : UH, HW (mkw c0 c1 c2 c3 c4 c5 c6 c7 c8 c9 c10 c11 r.2 c13) d h' → QQ (some (.int r.1), h') := fun h' p => by rw [hQQ]; exact ⟨rfl, p⟩
  clear hQQ
  show Ends (EX D) (u_at kl_293) (0, [some (.ref a0), some (.int p1)], [], h) QQ
  refine en_segs [(0, .aload_n 0, []), (1, .aload_n 0, [])] (by decide +kernel) (y := (2, [some (.ref a0), some (.int p1)], [.ref a0, .ref a0], h)) rfl ?_
  refine en_get (by decide +kernel : u_at kl_293 2 = some (.getfield 531, [12, 46])) hW ha0 (by decide) rfl ?_
  refine en_segs [(5, .ldc2_w 535, [1103515245]), (8, .lmul, []), (9, .ldc2_w 537, [12345]), (12, .ladd, []), (13, .ldc2_w 539, [2147483648])] (by decide +kernel) (y := (16, [some (.ref a0), some (.int p1)], [.long 2147483648, .long (((cJ c12 46 a0) * 1103515245) + 12345), .ref a0], h)) rfl ?_
  obtain ⟨v1, hv1, hF⟩ := ob_some hF
  refine en_lrem (by decide +kernel : u_at kl_293 16 = some (.lrem, [])) hv1 ?_
  obtain ⟨c12_2, hc12_2, hF⟩ := ob_some hF
  refine en_putJ (by decide +kernel : u_at kl_293 17 = some (.putfield 531, [12, 46, 1])) hW ha0 rfl (by decide) rfl (fun h hW => ?_)
  have hW : HW (mkw c0 c1 c2 c3 c4 c5 c6 c7 c8 c9 c10 c11 c12_2 c13) d h := by rw [← Option.some.inj hc12_2]; exact hW
  refine en_segs [(20, .aload_n 0, [])] (by decide +kernel) (y := (21, [some (.ref a0), some (.int p1)], [.ref a0], h)) rfl ?_
  refine en_get (by decide +kernel : u_at kl_293 21 = some (.getfield 531, [12, 46])) hW ha0 (by decide) rfl ?_
  refine en_segs [(24, .ldc2_w 541, [65536])] (by decide +kernel) (y := (27, [some (.ref a0), some (.int p1)], [.long 65536, .long (cJ c12_2 46 a0)], h)) rfl ?_
  obtain ⟨v3, hv3, hF⟩ := ob_some hF
  refine en_ldiv (by decide +kernel : u_at kl_293 27 = some (.ldiv, [])) hv3 ?_
  refine en_segs [(28, .iload_n 1, []), (29, .i2l, [])] (by decide +kernel) (y := (30, [some (.ref a0), some (.int p1)], [.long ((p1 : Int32).toInt64), .long v3], h)) rfl ?_
  obtain ⟨v4, hv4, hF⟩ := ob_some hF
  refine en_lrem (by decide +kernel : u_at kl_293 30 = some (.lrem, [])) hv4 ?_
  refine en_segs [(31, .l2i, [])] (by decide +kernel) (y := (32, [some (.ref a0), some (.int p1)], [.int ((v4 : Int64).toInt32)], h)) rfl ?_
  obtain rfl := Option.some.inj hF
  exact en_ret (by decide +kernel : u_at kl_293 32 = some (.ireturn, [0])) rfl (hQ _ hW)
def G_294 (a0 : Nat) (lab : Nat) (xs : List Int32) (ys : List Int64) (zs : List Nat) (c12 : Cl) : Option (Int32 × Cl) := match lab, xs, ys, zs with
  | 0, [x1, x2, x3], [], [] =>
    ald (cA c12 20 a0) 221 0 >>= fun v3 =>
    if v3 ≤ x3 then
    G_294 a0 1 [x1, x2] [] [] c12
    else
    F_221 c12 a0 x1 >>= fun r5 =>
    if r5 = 0 then
    G_294 a0 1 [x1, x2] [] [] c12
    else
    F_241 c12 a0 x1 x3 >>= fun r7 =>
    ((if r7 = 0 then
    some 0
    else
    some 1) : Option (Int32)) >>= fun (t8 : Int32) =>
    G_294 a0 0 [x1, x2 + t8, x3 + 1] [] [] c12
  | 1, [x1, x2], [], [] =>
    ((if x2 ≤ 0 then
    some (0, c12)
    else
    F_293 c12 a0 x2 >>= fun r15 =>
    some (r15.1, r15.2)) : Option (Int32 × Cl)) >>= fun (t11 : Int32 × Cl) =>
    ald (cA t11.2 20 a0) 221 0 >>= fun v13 =>
    G_294 a0 2 [x1, x2, t11.1, (-1), v13 - 1] [] [] t11.2
  | 2, [x1, x2, x3, x4, x5], [], [] =>
    if x5 < 0 then
    G_294 a0 3 [x1, x4] [] [] c12
    else
    if x2 ≤ 0 then
    G_294 a0 3 [x1, x4] [] [] c12
    else
    F_241 c12 a0 x1 x5 >>= fun r18 =>
    if r18 = 0 then
    G_294 a0 2 [x1, x2, x3, x4, x5 + (-1)] [] [] c12
    else
    ((if (x2 + (-1)) = x3 then
    some x5
    else
    some x4) : Option (Int32)) >>= fun (t20 : Int32) =>
    G_294 a0 2 [x1, x2 + (-1), x3, t20, x5 + (-1)] [] [] c12
  | 3, [x1, x4], [], [] =>
    ((if x4 < 0 then
    some c12
    else
    F_244 c12 a0 x1 x4 >>= fun r31 =>
    some r31) : Option (Cl)) >>= fun (t23 : Cl) =>
    F_242 t23 a0 >>= fun r25 =>
    F_227 r25 a0 >>= fun r26 =>
    ((if x4 < 0 then
    some 0
    else
    some 1) : Option (Int32)) >>= fun (t27 : Int32) =>
    some (t27, r26)
  | _, _, _, _ => none
partial_fixpoint
set_option maxRecDepth 100000 in
set_option maxHeartbeats 4000000 in
theorem g_294 {D : Nat} (hD : 6 ≤ D + 1) {c0 c1 c2 c3 c4 c5 c6 c7 c8 c9 c10 c11 c13 : Cl} {d : Ad} {a0 : Nat} (ha0 : aK d a0 = (0, 12, 0)) : ∀ (lab : Nat) (xs : List Int32) (ys : List Int64) (zs : List Nat) (c12 : Cl) (r : (Int32 × Cl)), G_294 a0 lab xs ys zs c12 = some r →
    (∀ (x1 : Int32) (x2 : Int32) (x3 : Int32), lab = 0 → xs = [x1, x2, x3] → ys = [] → zs = [] → ∀ h : UH, HW (mkw c0 c1 c2 c3 c4 c5 c6 c7 c8 c9 c10 c11 c12 c13) d h → ∀ QQ : UR → Prop, (∀ h' : UH, HW (mkw c0 c1 c2 c3 c4 c5 c6 c7 c8 c9 c10 c11 r.2 c13) d h' → QQ (some (.int r.1), h')) → Ends (EX D) (u_at kl_294) (17, [some (.ref a0), some (.int x1), some (.int x2), some (.int x3), none, none], [], h) QQ) ∧
    (∀ (x1 : Int32) (x2 : Int32), lab = 1 → xs = [x1, x2] → ys = [] → zs = [] → ∀ h : UH, HW (mkw c0 c1 c2 c3 c4 c5 c6 c7 c8 c9 c10 c11 c12 c13) d h → ∀ QQ : UR → Prop, (∀ h' : UH, HW (mkw c0 c1 c2 c3 c4 c5 c6 c7 c8 c9 c10 c11 r.2 c13) d h' → QQ (some (.int r.1), h')) → Ends (EX D) (u_at kl_294) (58, [some (.ref a0), some (.int x1), some (.int x2), none, none, none], [], h) QQ) ∧
    (∀ (x1 : Int32) (x2 : Int32) (x3 : Int32) (x4 : Int32) (x5 : Int32), lab = 2 → xs = [x1, x2, x3, x4, x5] → ys = [] → zs = [] → ∀ h : UH, HW (mkw c0 c1 c2 c3 c4 c5 c6 c7 c8 c9 c10 c11 c12 c13) d h → ∀ QQ : UR → Prop, (∀ h' : UH, HW (mkw c0 c1 c2 c3 c4 c5 c6 c7 c8 c9 c10 c11 r.2 c13) d h' → QQ (some (.int r.1), h')) → Ends (EX D) (u_at kl_294) (85, [some (.ref a0), some (.int x1), some (.int x2), some (.int x3), some (.int x4), some (.int x5)], [], h) QQ) ∧
    (∀ (x1 : Int32) (x4 : Int32), lab = 3 → xs = [x1, x4] → ys = [] → zs = [] → ∀ h : UH, HW (mkw c0 c1 c2 c3 c4 c5 c6 c7 c8 c9 c10 c11 c12 c13) d h → ∀ QQ : UR → Prop, (∀ h' : UH, HW (mkw c0 c1 c2 c3 c4 c5 c6 c7 c8 c9 c10 c11 r.2 c13) d h' → QQ (some (.int r.1), h')) → Ends (EX D) (u_at kl_294) (130, [some (.ref a0), some (.int x1), none, none, some (.int x4), none], [], h) QQ) := by
  refine G_294.partial_correctness _ (motive := fun lab xs ys zs c12 r =>
    (∀ (x1 : Int32) (x2 : Int32) (x3 : Int32), lab = 0 → xs = [x1, x2, x3] → ys = [] → zs = [] → ∀ h : UH, HW (mkw c0 c1 c2 c3 c4 c5 c6 c7 c8 c9 c10 c11 c12 c13) d h → ∀ QQ : UR → Prop, (∀ h' : UH, HW (mkw c0 c1 c2 c3 c4 c5 c6 c7 c8 c9 c10 c11 r.2 c13) d h' → QQ (some (.int r.1), h')) → Ends (EX D) (u_at kl_294) (17, [some (.ref a0), some (.int x1), some (.int x2), some (.int x3), none, none], [], h) QQ) ∧
    (∀ (x1 : Int32) (x2 : Int32), lab = 1 → xs = [x1, x2] → ys = [] → zs = [] → ∀ h : UH, HW (mkw c0 c1 c2 c3 c4 c5 c6 c7 c8 c9 c10 c11 c12 c13) d h → ∀ QQ : UR → Prop, (∀ h' : UH, HW (mkw c0 c1 c2 c3 c4 c5 c6 c7 c8 c9 c10 c11 r.2 c13) d h' → QQ (some (.int r.1), h')) → Ends (EX D) (u_at kl_294) (58, [some (.ref a0), some (.int x1), some (.int x2), none, none, none], [], h) QQ) ∧
    (∀ (x1 : Int32) (x2 : Int32) (x3 : Int32) (x4 : Int32) (x5 : Int32), lab = 2 → xs = [x1, x2, x3, x4, x5] → ys = [] → zs = [] → ∀ h : UH, HW (mkw c0 c1 c2 c3 c4 c5 c6 c7 c8 c9 c10 c11 c12 c13) d h → ∀ QQ : UR → Prop, (∀ h' : UH, HW (mkw c0 c1 c2 c3 c4 c5 c6 c7 c8 c9 c10 c11 r.2 c13) d h' → QQ (some (.int r.1), h')) → Ends (EX D) (u_at kl_294) (85, [some (.ref a0), some (.int x1), some (.int x2), some (.int x3), some (.int x4), some (.int x5)], [], h) QQ) ∧
    (∀ (x1 : Int32) (x4 : Int32), lab = 3 → xs = [x1, x4] → ys = [] → zs = [] → ∀ h : UH, HW (mkw c0 c1 c2 c3 c4 c5 c6 c7 c8 c9 c10 c11 c12 c13) d h → ∀ QQ : UR → Prop, (∀ h' : UH, HW (mkw c0 c1 c2 c3 c4 c5 c6 c7 c8 c9 c10 c11 r.2 c13) d h' → QQ (some (.int r.1), h')) → Ends (EX D) (u_at kl_294) (130, [some (.ref a0), some (.int x1), none, none, some (.int x4), none], [], h) QQ)) ?_
  intro G ih lab xs ys zs c12 r hF
  refine ⟨?_, ?_, ?_, ?_⟩
  · intro x1 x2 x3 e1 e2 e3 e4 h hW QQ hQ
    subst e1 e2 e3 e4
    refine en_segs [(17, .iload_n 3, []), (18, .aload_n 0, [])] (by decide +kernel) (y := (19, [some (.ref a0), some (.int x1), some (.int x2), some (.int x3), none, none], [.ref a0, .int x3], h)) rfl ?_
    refine en_get (by decide +kernel : u_at kl_294 19 = some (.getfield 39, [12, 20])) hW ha0 (by decide) rfl ?_
    refine en_segs [(22, .iconst 0, [])] (by decide +kernel) (y := (23, [some (.ref a0), some (.int x1), some (.int x2), some (.int x3), none, none], [.int 0, .ref (aP d 12 20 a0), .int x3], h)) rfl ?_
    obtain ⟨v3, hv3, hF⟩ := ob_some hF
    refine en_iald (by decide +kernel : u_at kl_294 23 = some (.iaload, [])) hW ha0 rfl (by decide) hv3 ?_
    refine en_ic_ge (by decide +kernel : u_at kl_294 24 = some (.if_icmp .ge 34, [58])) (fun b4 => ?_) (fun b4 => ?_)
    · replace hF := i_pos b4 hF
      refine en_fg (fg_k (fg_k (fg_k (fg_d (fg_k (fg_k fg_0)))))) ?_
      exact (ih _ _ _ _ _ _ hF).2.1 _ _ rfl rfl rfl rfl  _ hW _ hQ
    · replace hF := i_neg b4 hF
      refine en_segs [(27, .aload_n 0, []), (28, .iload_n 1, [])] (by decide +kernel) (y := (29, [some (.ref a0), some (.int x1), some (.int x2), some (.int x3), none, none], [.int x1, .ref a0], h)) rfl ?_
      obtain ⟨r5, hr5, hF⟩ := ob_some hF
      refine en_vi (r := []) (by decide +kernel : u_at kl_294 29 = some (.invokevirtual 367, [221, 1, 12])) hW ha0 rfl rfl (Nat.le_of_ble_eq_true rfl) (e_221 (D := D) (by omega) hW ha0 hr5) (fun h' q => ?_)
      subst q
      refine en_if_eq (by decide +kernel : u_at kl_294 32 = some (.ifCond .eq 26, [58])) (fun b6 => ?_) (fun b6 => ?_)
      · replace hF := i_pos b6 hF
        refine en_fg (fg_k (fg_k (fg_k (fg_d (fg_k (fg_k fg_0)))))) ?_
        exact (ih _ _ _ _ _ _ hF).2.1 _ _ rfl rfl rfl rfl  _ hW _ hQ
      · replace hF := i_neg b6 hF
        refine en_segs [(35, .iload_n 2, []), (36, .aload_n 0, []), (37, .iload_n 1, []), (38, .iload_n 3, [])] (by decide +kernel) (y := (39, [some (.ref a0), some (.int x1), some (.int x2), some (.int x3), none, none], [.int x3, .int x1, .ref a0, .int x2], h)) rfl ?_
        obtain ⟨r7, hr7, hF⟩ := ob_some hF
        refine en_vi (r := [.int x2]) (by decide +kernel : u_at kl_294 39 = some (.invokevirtual 394, [241, 2, 12])) hW ha0 rfl rfl (Nat.le_of_ble_eq_true rfl) (e_241 (D := D) (by omega) hW ha0 hr7) (fun h' q => ?_)
        subst q
        obtain ⟨t8, hX, hK⟩ := ob_some hF
        have j9 : ∀ h : UH, HW (mkw c0 c1 c2 c3 c4 c5 c6 c7 c8 c9 c10 c11 c12 c13) d h → Ends (EX D) (u_at kl_294) (50, [some (.ref a0), some (.int x1), some (.int x2), some (.int x3), none, none], [.int t8, .int x2], h) QQ := by
          intro h hW
          have hF := hK
          refine en_segs [(50, .iadd, []), (51, .istore_n 2, []), (52, .iinc 3 1, []), (55, .goto (-38), [17])] (by decide +kernel) (y := (17, [some (.ref a0), some (.int x1), some (.int (x2 + t8)), some (.int (x3 + 1)), none, none], [], h)) rfl ?_
          exact (ih _ _ _ _ _ _ hF).1 _ _ _ rfl rfl rfl rfl  _ hW _ hQ
        have hF := hX
        refine en_if_eq (by decide +kernel : u_at kl_294 42 = some (.ifCond .eq 7, [49])) (fun b10 => ?_) (fun b10 => ?_)
        · replace hF := i_pos b10 hF
          refine en_segs [(49, .iconst 0, [])] (by decide +kernel) (y := (50, [some (.ref a0), some (.int x1), some (.int x2), some (.int x3), none, none], [.int 0, .int x2], h)) rfl ?_
          obtain rfl := Option.some.inj hF
          exact j9 _ hW
        · replace hF := i_neg b10 hF
          refine en_segs [(45, .iconst 1, []), (46, .goto 4, [50])] (by decide +kernel) (y := (50, [some (.ref a0), some (.int x1), some (.int x2), some (.int x3), none, none], [.int 1, .int x2], h)) rfl ?_
          obtain rfl := Option.some.inj hF
          exact j9 _ hW
  · intro x1 x2 e1 e2 e3 e4 h hW QQ hQ
    subst e1 e2 e3 e4
    refine en_segs [(58, .iload_n 2, [])] (by decide +kernel) (y := (59, [some (.ref a0), some (.int x1), some (.int x2), none, none, none], [.int x2], h)) rfl ?_
    obtain ⟨t11, hX, hK⟩ := ob_some hF
    have j12 : ∀ h : UH, HW (mkw c0 c1 c2 c3 c4 c5 c6 c7 c8 c9 c10 c11 t11.2 c13) d h → Ends (EX D) (u_at kl_294) (71, [some (.ref a0), some (.int x1), some (.int x2), none, none, none], [.int t11.1], h) QQ := by
      intro h hW
      have hF := hK
      refine en_segs [(71, .istore_n 3, []), (72, .iconst (-1), []), (73, .istore 4, []), (75, .aload_n 0, [])] (by decide +kernel) (y := (76, [some (.ref a0), some (.int x1), some (.int x2), some (.int t11.1), some (.int (-1)), none], [.ref a0], h)) rfl ?_
      refine en_get (by decide +kernel : u_at kl_294 76 = some (.getfield 39, [12, 20])) hW ha0 (by decide) rfl ?_
      refine en_segs [(79, .iconst 0, [])] (by decide +kernel) (y := (80, [some (.ref a0), some (.int x1), some (.int x2), some (.int t11.1), some (.int (-1)), none], [.int 0, .ref (aP d 12 20 a0)], h)) rfl ?_
      obtain ⟨v13, hv13, hF⟩ := ob_some hF
      refine en_iald (by decide +kernel : u_at kl_294 80 = some (.iaload, [])) hW ha0 rfl (by decide) hv13 ?_
      refine en_segs [(81, .iconst 1, []), (82, .isub, []), (83, .istore 5, [])] (by decide +kernel) (y := (85, [some (.ref a0), some (.int x1), some (.int x2), some (.int t11.1), some (.int (-1)), some (.int (v13 - 1))], [], h)) rfl ?_
      exact (ih _ _ _ _ _ _ hF).2.2.1 _ _ _ _ _ rfl rfl rfl rfl  _ hW _ hQ
    have hF := hX
    refine en_if_le (by decide +kernel : u_at kl_294 59 = some (.ifCond .le 11, [70])) (fun b14 => ?_) (fun b14 => ?_)
    · replace hF := i_pos b14 hF
      refine en_segs [(70, .iconst 0, [])] (by decide +kernel) (y := (71, [some (.ref a0), some (.int x1), some (.int x2), none, none, none], [.int 0], h)) rfl ?_
      obtain rfl := Option.some.inj hF
      exact j12 _ hW
    · replace hF := i_neg b14 hF
      refine en_segs [(62, .aload_n 0, []), (63, .iload_n 2, [])] (by decide +kernel) (y := (64, [some (.ref a0), some (.int x1), some (.int x2), none, none, none], [.int x2, .ref a0], h)) rfl ?_
      obtain ⟨r15, hr15, hF⟩ := ob_some hF
      refine en_vi (r := []) (by decide +kernel : u_at kl_294 64 = some (.invokevirtual 543, [293, 1, 12])) hW ha0 rfl rfl (Nat.le_of_ble_eq_true rfl) (e_293 (D := D) (by omega) hW ha0 hr15) (fun h hW => ?_)
      have hW : HW (mkw c0 c1 c2 c3 c4 c5 c6 c7 c8 c9 c10 c11 r15.2 c13) d h := hW
      refine en_segs [(67, .goto 4, [71])] (by decide +kernel) (y := (71, [some (.ref a0), some (.int x1), some (.int x2), none, none, none], [.int r15.1], h)) rfl ?_
      obtain rfl := Option.some.inj hF
      exact j12 _ hW
  · intro x1 x2 x3 x4 x5 e1 e2 e3 e4 h hW QQ hQ
    subst e1 e2 e3 e4
    refine en_segs [(85, .iload 5, [])] (by decide +kernel) (y := (87, [some (.ref a0), some (.int x1), some (.int x2), some (.int x3), some (.int x4), some (.int x5)], [.int x5], h)) rfl ?_
    refine en_if_lt (by decide +kernel : u_at kl_294 87 = some (.ifCond .lt 43, [130])) (fun b16 => ?_) (fun b16 => ?_)
    · replace hF := i_pos b16 hF
      refine en_fg (fg_k (fg_k (fg_d (fg_d (fg_k (fg_d fg_0)))))) ?_
      exact (ih _ _ _ _ _ _ hF).2.2.2 _ _ rfl rfl rfl rfl  _ hW _ hQ
    · replace hF := i_neg b16 hF
      refine en_segs [(90, .iload_n 2, [])] (by decide +kernel) (y := (91, [some (.ref a0), some (.int x1), some (.int x2), some (.int x3), some (.int x4), some (.int x5)], [.int x2], h)) rfl ?_
      refine en_if_le (by decide +kernel : u_at kl_294 91 = some (.ifCond .le 39, [130])) (fun b17 => ?_) (fun b17 => ?_)
      · replace hF := i_pos b17 hF
        refine en_fg (fg_k (fg_k (fg_d (fg_d (fg_k (fg_d fg_0)))))) ?_
        exact (ih _ _ _ _ _ _ hF).2.2.2 _ _ rfl rfl rfl rfl  _ hW _ hQ
      · replace hF := i_neg b17 hF
        refine en_segs [(94, .aload_n 0, []), (95, .iload_n 1, []), (96, .iload 5, [])] (by decide +kernel) (y := (98, [some (.ref a0), some (.int x1), some (.int x2), some (.int x3), some (.int x4), some (.int x5)], [.int x5, .int x1, .ref a0], h)) rfl ?_
        obtain ⟨r18, hr18, hF⟩ := ob_some hF
        refine en_vi (r := []) (by decide +kernel : u_at kl_294 98 = some (.invokevirtual 394, [241, 2, 12])) hW ha0 rfl rfl (Nat.le_of_ble_eq_true rfl) (e_241 (D := D) (by omega) hW ha0 hr18) (fun h' q => ?_)
        subst q
        refine en_if_ne (by decide +kernel : u_at kl_294 101 = some (.ifCond .ne 6, [107])) (fun b19 => ?_) (fun b19 => ?_)
        · replace hF := i_pos b19 hF
          refine en_segs [(104, .goto 20, [124]), (124, .iinc 5 (-1), []), (127, .goto (-42), [85])] (by decide +kernel) (y := (85, [some (.ref a0), some (.int x1), some (.int x2), some (.int x3), some (.int x4), some (.int (x5 + (-1)))], [], h)) rfl ?_
          exact (ih _ _ _ _ _ _ hF).2.2.1 _ _ _ _ _ rfl rfl rfl rfl  _ hW _ hQ
        · replace hF := i_neg b19 hF
          refine en_segs [(107, .iinc 2 (-1), []), (110, .iload_n 2, []), (111, .iload_n 3, [])] (by decide +kernel) (y := (112, [some (.ref a0), some (.int x1), some (.int (x2 + (-1))), some (.int x3), some (.int x4), some (.int x5)], [.int x3, .int (x2 + (-1))], h)) rfl ?_
          obtain ⟨t20, hX, hK⟩ := ob_some hF
          have j21 : ∀ h : UH, HW (mkw c0 c1 c2 c3 c4 c5 c6 c7 c8 c9 c10 c11 c12 c13) d h → Ends (EX D) (u_at kl_294) (122, [some (.ref a0), some (.int x1), some (.int (x2 + (-1))), some (.int x3), some (.int x4), some (.int x5)], [.int t20], h) QQ := by
            intro h hW
            have hF := hK
            refine en_segs [(122, .istore 4, []), (124, .iinc 5 (-1), []), (127, .goto (-42), [85])] (by decide +kernel) (y := (85, [some (.ref a0), some (.int x1), some (.int (x2 + (-1))), some (.int x3), some (.int t20), some (.int (x5 + (-1)))], [], h)) rfl ?_
            exact (ih _ _ _ _ _ _ hF).2.2.1 _ _ _ _ _ rfl rfl rfl rfl  _ hW _ hQ
          have hF := hX
          refine en_ic_ne (by decide +kernel : u_at kl_294 112 = some (.if_icmp .ne 8, [120])) (fun b22 => ?_) (fun b22 => ?_)
          · replace hF := i_pos b22 hF
            refine en_segs [(115, .iload 5, []), (117, .goto 5, [122])] (by decide +kernel) (y := (122, [some (.ref a0), some (.int x1), some (.int (x2 + (-1))), some (.int x3), some (.int x4), some (.int x5)], [.int x5], h)) rfl ?_
            obtain rfl := Option.some.inj hF
            exact j21 _ hW
          · replace hF := i_neg b22 hF
            refine en_segs [(120, .iload 4, [])] (by decide +kernel) (y := (122, [some (.ref a0), some (.int x1), some (.int (x2 + (-1))), some (.int x3), some (.int x4), some (.int x5)], [.int x4], h)) rfl ?_
            obtain rfl := Option.some.inj hF
            exact j21 _ hW
  · intro x1 x4 e1 e2 e3 e4 h hW QQ hQ
    subst e1 e2 e3 e4
    refine en_segs [(130, .iload 4, [])] (by decide +kernel) (y := (132, [some (.ref a0), some (.int x1), none, none, some (.int x4), none], [.int x4], h)) rfl ?_
    obtain ⟨t23, hX, hK⟩ := ob_some hF
    have j24 : ∀ h : UH, HW (mkw c0 c1 c2 c3 c4 c5 c6 c7 c8 c9 c10 c11 t23 c13) d h → Ends (EX D) (u_at kl_294) (142, [some (.ref a0), some (.int x1), none, none, some (.int x4), none], [], h) QQ := by
      intro h hW
      have hF := hK
      refine en_segs [(142, .aload_n 0, [])] (by decide +kernel) (y := (143, [some (.ref a0), some (.int x1), none, none, some (.int x4), none], [.ref a0], h)) rfl ?_
      obtain ⟨r25, hr25, hF⟩ := ob_some hF
      refine en_vv (r := []) (by decide +kernel : u_at kl_294 143 = some (.invokevirtual 403, [242, 0, 12])) hW ha0 rfl rfl (Nat.le_of_ble_eq_true rfl) (e_242 (D := D) (by omega) hW ha0 hr25) (fun h hW => ?_)
      have hW : HW (mkw c0 c1 c2 c3 c4 c5 c6 c7 c8 c9 c10 c11 r25 c13) d h := hW
      refine en_segs [(146, .aload_n 0, [])] (by decide +kernel) (y := (147, [some (.ref a0), some (.int x1), none, none, some (.int x4), none], [.ref a0], h)) rfl ?_
      obtain ⟨r26, hr26, hF⟩ := ob_some hF
      refine en_vv (r := []) (by decide +kernel : u_at kl_294 147 = some (.invokevirtual 325, [227, 0, 12])) hW ha0 rfl rfl (Nat.le_of_ble_eq_true rfl) (e_227 (D := D) (by omega) hW ha0 hr26) (fun h hW => ?_)
      have hW : HW (mkw c0 c1 c2 c3 c4 c5 c6 c7 c8 c9 c10 c11 r26 c13) d h := hW
      refine en_segs [(150, .iload 4, [])] (by decide +kernel) (y := (152, [some (.ref a0), some (.int x1), none, none, some (.int x4), none], [.int x4], h)) rfl ?_
      obtain ⟨t27, hX, hK⟩ := ob_some hF
      have j28 : ∀ h : UH, HW (mkw c0 c1 c2 c3 c4 c5 c6 c7 c8 c9 c10 c11 r26 c13) d h → Ends (EX D) (u_at kl_294) (160, [some (.ref a0), some (.int x1), none, none, some (.int x4), none], [.int t27], h) QQ := by
        intro h hW
        have hF := hK
        obtain rfl := Option.some.inj hF
        exact en_ret (by decide +kernel : u_at kl_294 160 = some (.ireturn, [0])) rfl (hQ _ hW)
      have hF := hX
      refine en_if_lt (by decide +kernel : u_at kl_294 152 = some (.ifCond .lt 7, [159])) (fun b29 => ?_) (fun b29 => ?_)
      · replace hF := i_pos b29 hF
        refine en_segs [(159, .iconst 0, [])] (by decide +kernel) (y := (160, [some (.ref a0), some (.int x1), none, none, some (.int x4), none], [.int 0], h)) rfl ?_
        obtain rfl := Option.some.inj hF
        exact j28 _ hW
      · replace hF := i_neg b29 hF
        refine en_segs [(155, .iconst 1, []), (156, .goto 4, [160])] (by decide +kernel) (y := (160, [some (.ref a0), some (.int x1), none, none, some (.int x4), none], [.int 1], h)) rfl ?_
        obtain rfl := Option.some.inj hF
        exact j28 _ hW
    have hF := hX
    refine en_if_lt (by decide +kernel : u_at kl_294 132 = some (.ifCond .lt 10, [142])) (fun b30 => ?_) (fun b30 => ?_)
    · replace hF := i_pos b30 hF
      obtain rfl := Option.some.inj hF
      exact j24 _ hW
    · replace hF := i_neg b30 hF
      refine en_segs [(135, .aload_n 0, []), (136, .iload_n 1, []), (137, .iload 4, [])] (by decide +kernel) (y := (139, [some (.ref a0), some (.int x1), none, none, some (.int x4), none], [.int x4, .int x1, .ref a0], h)) rfl ?_
      obtain ⟨r31, hr31, hF⟩ := ob_some hF
      refine en_vv (r := []) (by decide +kernel : u_at kl_294 139 = some (.invokevirtual 400, [244, 2, 12])) hW ha0 rfl rfl (Nat.le_of_ble_eq_true rfl) (e_244 (D := D) (by omega) hW ha0 hr31) (fun h hW => ?_)
      have hW : HW (mkw c0 c1 c2 c3 c4 c5 c6 c7 c8 c9 c10 c11 r31 c13) d h := hW
      obtain rfl := Option.some.inj hF
      exact j24 _ hW
def F_294 (c12 : Cl) (a0 : Nat) : Option (Int32 × Cl) :=
  ald (cA c12 20 a0) 221 2 >>= fun v1 =>
  F_293 c12 a0 (v1 + 1) >>= fun r2 =>
  G_294 a0 0 [r2.1, 0, 0] [] [] r2.2
set_option maxRecDepth 100000 in
set_option maxHeartbeats 4000000 in
/-- HeadCountsModel.drawsMinute -/
theorem e_294 {D : Nat} {c0 c1 c2 c3 c4 c5 c6 c7 c8 c9 c10 c11 c12 c13 : Cl} {d : Ad} {h : UH} {a0 : Nat} {r : (Int32 × Cl)} (hD : 6 ≤ D) (hW : HW (mkw c0 c1 c2 c3 c4 c5 c6 c7 c8 c9 c10 c11 c12 c13) d h) (ha0 : aK d a0 = (0, 12, 0)) (hF : F_294 c12 a0 = some r) : ∃ q, EX D 294 [.ref a0] h q ∧ q.1 = some (.int r.1) ∧ HW (mkw c0 c1 c2 c3 c4 c5 c6 c7 c8 c9 c10 c11 r.2 c13) d q.2 := by
  obtain ⟨D, rfl⟩ : ∃ E, D = E + 1 := ⟨D - 1, by omega⟩
  unfold F_294 at hF
  refine ex_in (kl := kl_294) (nL := 6) rfl (by decide +kernel) (Nat.le_of_ble_eq_true rfl) ?_
  obtain ⟨QQ, hQQ⟩ : ∃ QQ : UR → Prop, QQ = (fun q : UR => q.1 = some (.int r.1) ∧ HW (mkw c0 c1 c2 c3 c4 c5 c6 c7 c8 c9 c10 c11 r.2 c13) d q.2) := ⟨_, rfl⟩
  rw [← hQQ]
  have hQ : ∀ h' : UH, HW (mkw c0 c1 c2 c3 c4 c5 c6 c7 c8 c9 c10 c11 r.2 c13) d h' → QQ (some (.int r.1), h') := fun h' p => by rw [hQQ]; exact ⟨rfl, p⟩
  clear hQQ
  show Ends (EX D) (u_at kl_294) (0, [some (.ref a0), none, none, none, none, none], [], h) QQ
  refine en_segs [(0, .aload_n 0, []), (1, .aload_n 0, [])] (by decide +kernel) (y := (2, [some (.ref a0), none, none, none, none, none], [.ref a0, .ref a0], h)) rfl ?_
  refine en_get (by decide +kernel : u_at kl_294 2 = some (.getfield 39, [12, 20])) hW ha0 (by decide) rfl ?_
  refine en_segs [(5, .iconst 2, [])] (by decide +kernel) (y := (6, [some (.ref a0), none, none, none, none, none], [.int 2, .ref (aP d 12 20 a0), .ref a0], h)) rfl ?_
  obtain ⟨v1, hv1, hF⟩ := ob_some hF
  refine en_iald (by decide +kernel : u_at kl_294 6 = some (.iaload, [])) hW ha0 rfl (by decide) hv1 ?_
  refine en_segs [(7, .iconst 1, []), (8, .iadd, [])] (by decide +kernel) (y := (9, [some (.ref a0), none, none, none, none, none], [.int (v1 + 1), .ref a0], h)) rfl ?_
  obtain ⟨r2, hr2, hF⟩ := ob_some hF
  refine en_vi (r := []) (by decide +kernel : u_at kl_294 9 = some (.invokevirtual 543, [293, 1, 12])) hW ha0 rfl rfl (Nat.le_of_ble_eq_true rfl) (e_293 (D := D) (by omega) hW ha0 hr2) (fun h hW => ?_)
  have hW : HW (mkw c0 c1 c2 c3 c4 c5 c6 c7 c8 c9 c10 c11 r2.2 c13) d h := hW
  refine en_segs [(12, .istore_n 1, []), (13, .iconst 0, []), (14, .istore_n 2, []), (15, .iconst 0, []), (16, .istore_n 3, [])] (by decide +kernel) (y := (17, [some (.ref a0), some (.int r2.1), some (.int 0), some (.int 0), none, none], [], h)) rfl ?_
  exact (g_294 (D := D) hD ha0 _ _ _ _ _ _ hF).1 _ _ _ rfl rfl rfl rfl  _ hW _ hQ
def G_295 (a0 : Nat) (lab : Nat) (xs : List Int32) (ys : List Int64) (zs : List Nat) (c12 : Cl) : Option (Int32 × Cl) := match lab, xs, ys, zs with
  | 0, [x1, x2, x3, x4, x5, x6, x7, x8], [], [] =>
    if 221 ≤ x8 then
    G_295 a0 1 [x1, x2, x3, x4, x5, x6, x7, 0] [] [] c12
    else
    ald (cA c12 20 a0) 221 x8 >>= fun v13 =>
    ast c12 45 a0 221 x8 v13 >>= fun c12_14 =>
    G_295 a0 0 [x1, x2, x3, x4, x5, x6, x7, x8 + 1] [] [] c12_14
  | 1, [x1, x2, x3, x4, x5, x6, x7, x8], [], [] =>
    if x1 ≤ x8 then
    ((if x5 = 0 then
    some x6
    else
    some x7) : Option (Int32)) >>= fun (t16 : Int32) =>
    some (t16, c12)
    else
    G_295 a0 2 [x1, x2, x3, x4, x5, x6, x7, x8, 0] [] [] c12
  | 2, [x1, x2, x3, x4, x5, x6, x7, x8, x9], [], [] =>
    if x2 ≤ x9 then
    G_295 a0 3 [x1, x2, x3, x4, x5, x6, x7, x8, 0] [] [] c12
    else
    F_294 c12 a0 >>= fun r20 =>
    F_231 r20.2 a0 x3 >>= fun r21 =>
    ((if r21 < x4 then
    some 0
    else
    some 1) : Option (Int32)) >>= fun (t22 : Int32) =>
    G_295 a0 2 [x1, x2, x3, x4, x5, x6 + t22, x7 + r20.1, x8, x9 + 1] [] [] r20.2
  | 3, [x1, x2, x3, x4, x5, x6, x7, x8, x9], [], [] =>
    if 221 ≤ x9 then
    G_295 a0 1 [x1, x2, x3, x4, x5, x6, x7, x8 + 1] [] [] c12
    else
    ald (cA c12 45 a0) 221 x9 >>= fun v26 =>
    ast c12 20 a0 221 x9 v26 >>= fun c12_27 =>
    G_295 a0 3 [x1, x2, x3, x4, x5, x6, x7, x8, x9 + 1] [] [] c12_27
  | _, _, _, _ => none
partial_fixpoint
set_option maxRecDepth 100000 in
set_option maxHeartbeats 4000000 in
theorem g_295 {D : Nat} (hD : 8 ≤ D + 1) {c0 c1 c2 c3 c4 c5 c6 c7 c8 c9 c10 c11 c13 : Cl} {d : Ad} {a0 : Nat} (ha0 : aK d a0 = (0, 12, 0)) : ∀ (lab : Nat) (xs : List Int32) (ys : List Int64) (zs : List Nat) (c12 : Cl) (r : (Int32 × Cl)), G_295 a0 lab xs ys zs c12 = some r →
    (∀ (x1 : Int32) (x2 : Int32) (x3 : Int32) (x4 : Int32) (x5 : Int32) (x6 : Int32) (x7 : Int32) (x8 : Int32), lab = 0 → xs = [x1, x2, x3, x4, x5, x6, x7, x8] → ys = [] → zs = [] → ∀ h : UH, HW (mkw c0 c1 c2 c3 c4 c5 c6 c7 c8 c9 c10 c11 c12 c13) d h → ∀ QQ : UR → Prop, (∀ h' : UH, HW (mkw c0 c1 c2 c3 c4 c5 c6 c7 c8 c9 c10 c11 r.2 c13) d h' → QQ (some (.int r.1), h')) → Ends (EX D) (u_at kl_295) (76, [some (.ref a0), some (.int x1), some (.int x2), some (.int x3), some (.int x4), some (.int x5), some (.int x6), some (.int x7), some (.int x8), none], [], h) QQ) ∧
    (∀ (x1 : Int32) (x2 : Int32) (x3 : Int32) (x4 : Int32) (x5 : Int32) (x6 : Int32) (x7 : Int32) (x8 : Int32), lab = 1 → xs = [x1, x2, x3, x4, x5, x6, x7, x8] → ys = [] → zs = [] → ∀ h : UH, HW (mkw c0 c1 c2 c3 c4 c5 c6 c7 c8 c9 c10 c11 c12 c13) d h → ∀ QQ : UR → Prop, (∀ h' : UH, HW (mkw c0 c1 c2 c3 c4 c5 c6 c7 c8 c9 c10 c11 r.2 c13) d h' → QQ (some (.int r.1), h')) → Ends (EX D) (u_at kl_295) (107, [some (.ref a0), some (.int x1), some (.int x2), some (.int x3), some (.int x4), some (.int x5), some (.int x6), some (.int x7), some (.int x8), none], [], h) QQ) ∧
    (∀ (x1 : Int32) (x2 : Int32) (x3 : Int32) (x4 : Int32) (x5 : Int32) (x6 : Int32) (x7 : Int32) (x8 : Int32) (x9 : Int32), lab = 2 → xs = [x1, x2, x3, x4, x5, x6, x7, x8, x9] → ys = [] → zs = [] → ∀ h : UH, HW (mkw c0 c1 c2 c3 c4 c5 c6 c7 c8 c9 c10 c11 c12 c13) d h → ∀ QQ : UR → Prop, (∀ h' : UH, HW (mkw c0 c1 c2 c3 c4 c5 c6 c7 c8 c9 c10 c11 r.2 c13) d h' → QQ (some (.int r.1), h')) → Ends (EX D) (u_at kl_295) (116, [some (.ref a0), some (.int x1), some (.int x2), some (.int x3), some (.int x4), some (.int x5), some (.int x6), some (.int x7), some (.int x8), some (.int x9)], [], h) QQ) ∧
    (∀ (x1 : Int32) (x2 : Int32) (x3 : Int32) (x4 : Int32) (x5 : Int32) (x6 : Int32) (x7 : Int32) (x8 : Int32) (x9 : Int32), lab = 3 → xs = [x1, x2, x3, x4, x5, x6, x7, x8, x9] → ys = [] → zs = [] → ∀ h : UH, HW (mkw c0 c1 c2 c3 c4 c5 c6 c7 c8 c9 c10 c11 c12 c13) d h → ∀ QQ : UR → Prop, (∀ h' : UH, HW (mkw c0 c1 c2 c3 c4 c5 c6 c7 c8 c9 c10 c11 r.2 c13) d h' → QQ (some (.int r.1), h')) → Ends (EX D) (u_at kl_295) (160, [some (.ref a0), some (.int x1), some (.int x2), some (.int x3), some (.int x4), some (.int x5), some (.int x6), some (.int x7), some (.int x8), some (.int x9)], [], h) QQ) := by
  refine G_295.partial_correctness _ (motive := fun lab xs ys zs c12 r =>
    (∀ (x1 : Int32) (x2 : Int32) (x3 : Int32) (x4 : Int32) (x5 : Int32) (x6 : Int32) (x7 : Int32) (x8 : Int32), lab = 0 → xs = [x1, x2, x3, x4, x5, x6, x7, x8] → ys = [] → zs = [] → ∀ h : UH, HW (mkw c0 c1 c2 c3 c4 c5 c6 c7 c8 c9 c10 c11 c12 c13) d h → ∀ QQ : UR → Prop, (∀ h' : UH, HW (mkw c0 c1 c2 c3 c4 c5 c6 c7 c8 c9 c10 c11 r.2 c13) d h' → QQ (some (.int r.1), h')) → Ends (EX D) (u_at kl_295) (76, [some (.ref a0), some (.int x1), some (.int x2), some (.int x3), some (.int x4), some (.int x5), some (.int x6), some (.int x7), some (.int x8), none], [], h) QQ) ∧
    (∀ (x1 : Int32) (x2 : Int32) (x3 : Int32) (x4 : Int32) (x5 : Int32) (x6 : Int32) (x7 : Int32) (x8 : Int32), lab = 1 → xs = [x1, x2, x3, x4, x5, x6, x7, x8] → ys = [] → zs = [] → ∀ h : UH, HW (mkw c0 c1 c2 c3 c4 c5 c6 c7 c8 c9 c10 c11 c12 c13) d h → ∀ QQ : UR → Prop, (∀ h' : UH, HW (mkw c0 c1 c2 c3 c4 c5 c6 c7 c8 c9 c10 c11 r.2 c13) d h' → QQ (some (.int r.1), h')) → Ends (EX D) (u_at kl_295) (107, [some (.ref a0), some (.int x1), some (.int x2), some (.int x3), some (.int x4), some (.int x5), some (.int x6), some (.int x7), some (.int x8), none], [], h) QQ) ∧
    (∀ (x1 : Int32) (x2 : Int32) (x3 : Int32) (x4 : Int32) (x5 : Int32) (x6 : Int32) (x7 : Int32) (x8 : Int32) (x9 : Int32), lab = 2 → xs = [x1, x2, x3, x4, x5, x6, x7, x8, x9] → ys = [] → zs = [] → ∀ h : UH, HW (mkw c0 c1 c2 c3 c4 c5 c6 c7 c8 c9 c10 c11 c12 c13) d h → ∀ QQ : UR → Prop, (∀ h' : UH, HW (mkw c0 c1 c2 c3 c4 c5 c6 c7 c8 c9 c10 c11 r.2 c13) d h' → QQ (some (.int r.1), h')) → Ends (EX D) (u_at kl_295) (116, [some (.ref a0), some (.int x1), some (.int x2), some (.int x3), some (.int x4), some (.int x5), some (.int x6), some (.int x7), some (.int x8), some (.int x9)], [], h) QQ) ∧
    (∀ (x1 : Int32) (x2 : Int32) (x3 : Int32) (x4 : Int32) (x5 : Int32) (x6 : Int32) (x7 : Int32) (x8 : Int32) (x9 : Int32), lab = 3 → xs = [x1, x2, x3, x4, x5, x6, x7, x8, x9] → ys = [] → zs = [] → ∀ h : UH, HW (mkw c0 c1 c2 c3 c4 c5 c6 c7 c8 c9 c10 c11 c12 c13) d h → ∀ QQ : UR → Prop, (∀ h' : UH, HW (mkw c0 c1 c2 c3 c4 c5 c6 c7 c8 c9 c10 c11 r.2 c13) d h' → QQ (some (.int r.1), h')) → Ends (EX D) (u_at kl_295) (160, [some (.ref a0), some (.int x1), some (.int x2), some (.int x3), some (.int x4), some (.int x5), some (.int x6), some (.int x7), some (.int x8), some (.int x9)], [], h) QQ)) ?_
  intro G ih lab xs ys zs c12 r hF
  refine ⟨?_, ?_, ?_, ?_⟩
  · intro x1 x2 x3 x4 x5 x6 x7 x8 e1 e2 e3 e4 h hW QQ hQ
    subst e1 e2 e3 e4
    refine en_segs [(76, .iload 8, []), (78, .sipush 221, [])] (by decide +kernel) (y := (81, [some (.ref a0), some (.int x1), some (.int x2), some (.int x3), some (.int x4), some (.int x5), some (.int x6), some (.int x7), some (.int x8), none], [.int 221, .int x8], h)) rfl ?_
    refine en_ic_ge (by decide +kernel : u_at kl_295 81 = some (.if_icmp .ge 23, [104])) (fun b12 => ?_) (fun b12 => ?_)
    · replace hF := i_pos b12 hF
      refine en_segs [(104, .iconst 0, []), (105, .istore 8, [])] (by decide +kernel) (y := (107, [some (.ref a0), some (.int x1), some (.int x2), some (.int x3), some (.int x4), some (.int x5), some (.int x6), some (.int x7), some (.int 0), none], [], h)) rfl ?_
      exact (ih _ _ _ _ _ _ hF).2.1 _ _ _ _ _ _ _ _ rfl rfl rfl rfl  _ hW _ hQ
    · replace hF := i_neg b12 hF
      refine en_segs [(84, .aload_n 0, [])] (by decide +kernel) (y := (85, [some (.ref a0), some (.int x1), some (.int x2), some (.int x3), some (.int x4), some (.int x5), some (.int x6), some (.int x7), some (.int x8), none], [.ref a0], h)) rfl ?_
      refine en_get (by decide +kernel : u_at kl_295 85 = some (.getfield 104, [12, 45])) hW ha0 (by decide) rfl ?_
      refine en_segs [(88, .iload 8, []), (90, .aload_n 0, [])] (by decide +kernel) (y := (91, [some (.ref a0), some (.int x1), some (.int x2), some (.int x3), some (.int x4), some (.int x5), some (.int x6), some (.int x7), some (.int x8), none], [.ref a0, .int x8, .ref (aP d 12 45 a0)], h)) rfl ?_
      refine en_get (by decide +kernel : u_at kl_295 91 = some (.getfield 39, [12, 20])) hW ha0 (by decide) rfl ?_
      refine en_segs [(94, .iload 8, [])] (by decide +kernel) (y := (96, [some (.ref a0), some (.int x1), some (.int x2), some (.int x3), some (.int x4), some (.int x5), some (.int x6), some (.int x7), some (.int x8), none], [.int x8, .ref (aP d 12 20 a0), .int x8, .ref (aP d 12 45 a0)], h)) rfl ?_
      obtain ⟨v13, hv13, hF⟩ := ob_some hF
      refine en_iald (by decide +kernel : u_at kl_295 96 = some (.iaload, [])) hW ha0 rfl (by decide) hv13 ?_
      obtain ⟨c12_14, hc12_14, hF⟩ := ob_some hF
      refine en_iast (by decide +kernel : u_at kl_295 97 = some (.iastore, [])) hW ha0 rfl (by decide) hc12_14 (fun h hW => ?_)
      have hW : HW (mkw c0 c1 c2 c3 c4 c5 c6 c7 c8 c9 c10 c11 c12_14 c13) d h := hW
      refine en_segs [(98, .iinc 8 1, []), (101, .goto (-25), [76])] (by decide +kernel) (y := (76, [some (.ref a0), some (.int x1), some (.int x2), some (.int x3), some (.int x4), some (.int x5), some (.int x6), some (.int x7), some (.int (x8 + 1)), none], [], h)) rfl ?_
      exact (ih _ _ _ _ _ _ hF).1 _ _ _ _ _ _ _ _ rfl rfl rfl rfl  _ hW _ hQ
  · intro x1 x2 x3 x4 x5 x6 x7 x8 e1 e2 e3 e4 h hW QQ hQ
    subst e1 e2 e3 e4
    refine en_segs [(107, .iload 8, []), (109, .iload_n 1, [])] (by decide +kernel) (y := (110, [some (.ref a0), some (.int x1), some (.int x2), some (.int x3), some (.int x4), some (.int x5), some (.int x6), some (.int x7), some (.int x8), none], [.int x1, .int x8], h)) rfl ?_
    refine en_ic_ge (by decide +kernel : u_at kl_295 110 = some (.if_icmp .ge 84, [194])) (fun b15 => ?_) (fun b15 => ?_)
    · replace hF := i_pos b15 hF
      refine en_segs [(194, .iload 5, [])] (by decide +kernel) (y := (196, [some (.ref a0), some (.int x1), some (.int x2), some (.int x3), some (.int x4), some (.int x5), some (.int x6), some (.int x7), some (.int x8), none], [.int x5], h)) rfl ?_
      obtain ⟨t16, hX, hK⟩ := ob_some hF
      have j17 : ∀ h : UH, HW (mkw c0 c1 c2 c3 c4 c5 c6 c7 c8 c9 c10 c11 c12 c13) d h → Ends (EX D) (u_at kl_295) (206, [some (.ref a0), some (.int x1), some (.int x2), some (.int x3), some (.int x4), some (.int x5), some (.int x6), some (.int x7), some (.int x8), none], [.int t16], h) QQ := by
        intro h hW
        have hF := hK
        obtain rfl := Option.some.inj hF
        exact en_ret (by decide +kernel : u_at kl_295 206 = some (.ireturn, [0])) rfl (hQ _ hW)
      have hF := hX
      refine en_if_ne (by decide +kernel : u_at kl_295 196 = some (.ifCond .ne 8, [204])) (fun b18 => ?_) (fun b18 => ?_)
      · replace hF := i_pos b18 hF
        refine en_segs [(199, .iload 6, []), (201, .goto 5, [206])] (by decide +kernel) (y := (206, [some (.ref a0), some (.int x1), some (.int x2), some (.int x3), some (.int x4), some (.int x5), some (.int x6), some (.int x7), some (.int x8), none], [.int x6], h)) rfl ?_
        obtain rfl := Option.some.inj hF
        exact j17 _ hW
      · replace hF := i_neg b18 hF
        refine en_segs [(204, .iload 7, [])] (by decide +kernel) (y := (206, [some (.ref a0), some (.int x1), some (.int x2), some (.int x3), some (.int x4), some (.int x5), some (.int x6), some (.int x7), some (.int x8), none], [.int x7], h)) rfl ?_
        obtain rfl := Option.some.inj hF
        exact j17 _ hW
    · replace hF := i_neg b15 hF
      refine en_segs [(113, .iconst 0, []), (114, .istore 9, [])] (by decide +kernel) (y := (116, [some (.ref a0), some (.int x1), some (.int x2), some (.int x3), some (.int x4), some (.int x5), some (.int x6), some (.int x7), some (.int x8), some (.int 0)], [], h)) rfl ?_
      exact (ih _ _ _ _ _ _ hF).2.2.1 _ _ _ _ _ _ _ _ _ rfl rfl rfl rfl  _ hW _ hQ
  · intro x1 x2 x3 x4 x5 x6 x7 x8 x9 e1 e2 e3 e4 h hW QQ hQ
    subst e1 e2 e3 e4
    refine en_segs [(116, .iload 9, []), (118, .iload_n 2, [])] (by decide +kernel) (y := (119, [some (.ref a0), some (.int x1), some (.int x2), some (.int x3), some (.int x4), some (.int x5), some (.int x6), some (.int x7), some (.int x8), some (.int x9)], [.int x2, .int x9], h)) rfl ?_
    refine en_ic_ge (by decide +kernel : u_at kl_295 119 = some (.if_icmp .ge 38, [157])) (fun b19 => ?_) (fun b19 => ?_)
    · replace hF := i_pos b19 hF
      refine en_segs [(157, .iconst 0, []), (158, .istore 9, [])] (by decide +kernel) (y := (160, [some (.ref a0), some (.int x1), some (.int x2), some (.int x3), some (.int x4), some (.int x5), some (.int x6), some (.int x7), some (.int x8), some (.int 0)], [], h)) rfl ?_
      exact (ih _ _ _ _ _ _ hF).2.2.2 _ _ _ _ _ _ _ _ _ rfl rfl rfl rfl  _ hW _ hQ
    · replace hF := i_neg b19 hF
      refine en_segs [(122, .iload 7, []), (124, .aload_n 0, [])] (by decide +kernel) (y := (125, [some (.ref a0), some (.int x1), some (.int x2), some (.int x3), some (.int x4), some (.int x5), some (.int x6), some (.int x7), some (.int x8), some (.int x9)], [.ref a0, .int x7], h)) rfl ?_
      obtain ⟨r20, hr20, hF⟩ := ob_some hF
      refine en_vi (r := [.int x7]) (by decide +kernel : u_at kl_295 125 = some (.invokevirtual 550, [294, 0, 12])) hW ha0 rfl rfl (Nat.le_of_ble_eq_true rfl) (e_294 (D := D) (by omega) hW ha0 hr20) (fun h hW => ?_)
      have hW : HW (mkw c0 c1 c2 c3 c4 c5 c6 c7 c8 c9 c10 c11 r20.2 c13) d h := hW
      refine en_segs [(128, .iadd, []), (129, .istore 7, []), (131, .iload 6, []), (133, .aload_n 0, []), (134, .iload_n 3, [])] (by decide +kernel) (y := (135, [some (.ref a0), some (.int x1), some (.int x2), some (.int x3), some (.int x4), some (.int x5), some (.int x6), some (.int (x7 + r20.1)), some (.int x8), some (.int x9)], [.int x3, .ref a0, .int x6], h)) rfl ?_
      obtain ⟨r21, hr21, hF⟩ := ob_some hF
      refine en_vi (r := [.int x6]) (by decide +kernel : u_at kl_295 135 = some (.invokevirtual 389, [231, 1, 12])) hW ha0 rfl rfl (Nat.le_of_ble_eq_true rfl) (e_231 (D := D) (by omega) hW ha0 hr21) (fun h' q => ?_)
      subst q
      refine en_segs [(138, .iload 4, [])] (by decide +kernel) (y := (140, [some (.ref a0), some (.int x1), some (.int x2), some (.int x3), some (.int x4), some (.int x5), some (.int x6), some (.int (x7 + r20.1)), some (.int x8), some (.int x9)], [.int x4, .int r21, .int x6], h)) rfl ?_
      obtain ⟨t22, hX, hK⟩ := ob_some hF
      have j23 : ∀ h : UH, HW (mkw c0 c1 c2 c3 c4 c5 c6 c7 c8 c9 c10 c11 r20.2 c13) d h → Ends (EX D) (u_at kl_295) (148, [some (.ref a0), some (.int x1), some (.int x2), some (.int x3), some (.int x4), some (.int x5), some (.int x6), some (.int (x7 + r20.1)), some (.int x8), some (.int x9)], [.int t22, .int x6], h) QQ := by
        intro h hW
        have hF := hK
        refine en_segs [(148, .iadd, []), (149, .istore 6, []), (151, .iinc 9 1, []), (154, .goto (-38), [116])] (by decide +kernel) (y := (116, [some (.ref a0), some (.int x1), some (.int x2), some (.int x3), some (.int x4), some (.int x5), some (.int (x6 + t22)), some (.int (x7 + r20.1)), some (.int x8), some (.int (x9 + 1))], [], h)) rfl ?_
        exact (ih _ _ _ _ _ _ hF).2.2.1 _ _ _ _ _ _ _ _ _ rfl rfl rfl rfl  _ hW _ hQ
      have hF := hX
      refine en_ic_lt (by decide +kernel : u_at kl_295 140 = some (.if_icmp .lt 7, [147])) (fun b24 => ?_) (fun b24 => ?_)
      · replace hF := i_pos b24 hF
        refine en_segs [(147, .iconst 0, [])] (by decide +kernel) (y := (148, [some (.ref a0), some (.int x1), some (.int x2), some (.int x3), some (.int x4), some (.int x5), some (.int x6), some (.int (x7 + r20.1)), some (.int x8), some (.int x9)], [.int 0, .int x6], h)) rfl ?_
        obtain rfl := Option.some.inj hF
        exact j23 _ hW
      · replace hF := i_neg b24 hF
        refine en_segs [(143, .iconst 1, []), (144, .goto 4, [148])] (by decide +kernel) (y := (148, [some (.ref a0), some (.int x1), some (.int x2), some (.int x3), some (.int x4), some (.int x5), some (.int x6), some (.int (x7 + r20.1)), some (.int x8), some (.int x9)], [.int 1, .int x6], h)) rfl ?_
        obtain rfl := Option.some.inj hF
        exact j23 _ hW
  · intro x1 x2 x3 x4 x5 x6 x7 x8 x9 e1 e2 e3 e4 h hW QQ hQ
    subst e1 e2 e3 e4
    refine en_segs [(160, .iload 9, []), (162, .sipush 221, [])] (by decide +kernel) (y := (165, [some (.ref a0), some (.int x1), some (.int x2), some (.int x3), some (.int x4), some (.int x5), some (.int x6), some (.int x7), some (.int x8), some (.int x9)], [.int 221, .int x9], h)) rfl ?_
    refine en_ic_ge (by decide +kernel : u_at kl_295 165 = some (.if_icmp .ge 23, [188])) (fun b25 => ?_) (fun b25 => ?_)
    · replace hF := i_pos b25 hF
      refine en_segs [(188, .iinc 8 1, []), (191, .goto (-84), [107])] (by decide +kernel) (y := (107, [some (.ref a0), some (.int x1), some (.int x2), some (.int x3), some (.int x4), some (.int x5), some (.int x6), some (.int x7), some (.int (x8 + 1)), some (.int x9)], [], h)) rfl ?_
      refine en_fg (fg_k (fg_k (fg_k (fg_k (fg_k (fg_k (fg_k (fg_k (fg_k (fg_d fg_0)))))))))) ?_
      exact (ih _ _ _ _ _ _ hF).2.1 _ _ _ _ _ _ _ _ rfl rfl rfl rfl  _ hW _ hQ
    · replace hF := i_neg b25 hF
      refine en_segs [(168, .aload_n 0, [])] (by decide +kernel) (y := (169, [some (.ref a0), some (.int x1), some (.int x2), some (.int x3), some (.int x4), some (.int x5), some (.int x6), some (.int x7), some (.int x8), some (.int x9)], [.ref a0], h)) rfl ?_
      refine en_get (by decide +kernel : u_at kl_295 169 = some (.getfield 39, [12, 20])) hW ha0 (by decide) rfl ?_
      refine en_segs [(172, .iload 9, []), (174, .aload_n 0, [])] (by decide +kernel) (y := (175, [some (.ref a0), some (.int x1), some (.int x2), some (.int x3), some (.int x4), some (.int x5), some (.int x6), some (.int x7), some (.int x8), some (.int x9)], [.ref a0, .int x9, .ref (aP d 12 20 a0)], h)) rfl ?_
      refine en_get (by decide +kernel : u_at kl_295 175 = some (.getfield 104, [12, 45])) hW ha0 (by decide) rfl ?_
      refine en_segs [(178, .iload 9, [])] (by decide +kernel) (y := (180, [some (.ref a0), some (.int x1), some (.int x2), some (.int x3), some (.int x4), some (.int x5), some (.int x6), some (.int x7), some (.int x8), some (.int x9)], [.int x9, .ref (aP d 12 45 a0), .int x9, .ref (aP d 12 20 a0)], h)) rfl ?_
      obtain ⟨v26, hv26, hF⟩ := ob_some hF
      refine en_iald (by decide +kernel : u_at kl_295 180 = some (.iaload, [])) hW ha0 rfl (by decide) hv26 ?_
      obtain ⟨c12_27, hc12_27, hF⟩ := ob_some hF
      refine en_iast (by decide +kernel : u_at kl_295 181 = some (.iastore, [])) hW ha0 rfl (by decide) hc12_27 (fun h hW => ?_)
      have hW : HW (mkw c0 c1 c2 c3 c4 c5 c6 c7 c8 c9 c10 c11 c12_27 c13) d h := hW
      refine en_segs [(182, .iinc 9 1, []), (185, .goto (-25), [160])] (by decide +kernel) (y := (160, [some (.ref a0), some (.int x1), some (.int x2), some (.int x3), some (.int x4), some (.int x5), some (.int x6), some (.int x7), some (.int x8), some (.int (x9 + 1))], [], h)) rfl ?_
      exact (ih _ _ _ _ _ _ hF).2.2.2 _ _ _ _ _ _ _ _ _ rfl rfl rfl rfl  _ hW _ hQ
def F_295 (c12 : Cl) (a0 : Nat) (p1 : Int32) (p2 : Int32) (p3 : Int32) (p4 : Int32) (p5 : Int32) : Option (Int32 × Cl) :=
  F_222 c12 a0 p3 >>= fun r1 =>
  if r1 = 0 then
  some ((-1), c12)
  else
  F_170 ((p1 : Int32).toInt64) 1 20 >>= fun r3 =>
  if r3 = 0 then
  some ((-1), c12)
  else
  F_170 ((p2 : Int32).toInt64) 1 100 >>= fun r5 =>
  if r5 = 0 then
  some ((-1), c12)
  else
  F_170 ((p4 : Int32).toInt64) 0 99 >>= fun r7 =>
  if r7 = 0 then
  some ((-1), c12)
  else
  F_170 ((p5 : Int32).toInt64) 0 1 >>= fun r9 =>
  if r9 = 0 then
  some ((-1), c12)
  else
  some (sJ c12 46 a0 ((cI c12 21 a0 : Int32).toInt64)) >>= fun c12_11 =>
  G_295 a0 0 [p1, p2, p3, p4, p5, 0, 0, 0] [] [] c12_11
set_option maxRecDepth 100000 in
set_option maxHeartbeats 4000000 in
/-- HeadCountsModel.nights -/
theorem e_295 {D : Nat} {c0 c1 c2 c3 c4 c5 c6 c7 c8 c9 c10 c11 c12 c13 : Cl} {d : Ad} {h : UH} {a0 : Nat} {p1 : Int32} {p2 : Int32} {p3 : Int32} {p4 : Int32} {p5 : Int32} {r : (Int32 × Cl)} (hD : 8 ≤ D) (hW : HW (mkw c0 c1 c2 c3 c4 c5 c6 c7 c8 c9 c10 c11 c12 c13) d h) (ha0 : aK d a0 = (0, 12, 0)) (hF : F_295 c12 a0 p1 p2 p3 p4 p5 = some r) : ∃ q, EX D 295 [.ref a0, .int p1, .int p2, .int p3, .int p4, .int p5] h q ∧ q.1 = some (.int r.1) ∧ HW (mkw c0 c1 c2 c3 c4 c5 c6 c7 c8 c9 c10 c11 r.2 c13) d q.2 := by
  obtain ⟨D, rfl⟩ : ∃ E, D = E + 1 := ⟨D - 1, by omega⟩
  unfold F_295 at hF
  refine ex_in (kl := kl_295) (nL := 10) rfl (by decide +kernel) (Nat.le_of_ble_eq_true rfl) ?_
  obtain ⟨QQ, hQQ⟩ : ∃ QQ : UR → Prop, QQ = (fun q : UR => q.1 = some (.int r.1) ∧ HW (mkw c0 c1 c2 c3 c4 c5 c6 c7 c8 c9 c10 c11 r.2 c13) d q.2) := ⟨_, rfl⟩
  rw [← hQQ]
  have hQ : ∀ h' : UH, HW (mkw c0 c1 c2 c3 c4 c5 c6 c7 c8 c9 c10 c11 r.2 c13) d h' → QQ (some (.int r.1), h') := fun h' p => by rw [hQQ]; exact ⟨rfl, p⟩
  clear hQQ
  show Ends (EX D) (u_at kl_295) (0, [some (.ref a0), some (.int p1), some (.int p2), some (.int p3), some (.int p4), some (.int p5), none, none, none, none], [], h) QQ
  refine en_segs [(0, .aload_n 0, []), (1, .iload_n 3, [])] (by decide +kernel) (y := (2, [some (.ref a0), some (.int p1), some (.int p2), some (.int p3), some (.int p4), some (.int p5), none, none, none, none], [.int p3, .ref a0], h)) rfl ?_
  obtain ⟨r1, hr1, hF⟩ := ob_some hF
  refine en_vi (r := []) (by decide +kernel : u_at kl_295 2 = some (.invokevirtual 386, [222, 1, 12])) hW ha0 rfl rfl (Nat.le_of_ble_eq_true rfl) (e_222 (D := D) (by omega) hW ha0 hr1) (fun h' q => ?_)
  subst q
  refine en_if_eq (by decide +kernel : u_at kl_295 5 = some (.ifCond .eq 51, [56])) (fun b2 => ?_) (fun b2 => ?_)
  · replace hF := i_pos b2 hF
    refine en_segs [(56, .iconst (-1), [])] (by decide +kernel) (y := (57, [some (.ref a0), some (.int p1), some (.int p2), some (.int p3), some (.int p4), some (.int p5), none, none, none, none], [.int (-1)], h)) rfl ?_
    obtain rfl := Option.some.inj hF
    exact en_ret (by decide +kernel : u_at kl_295 57 = some (.ireturn, [0])) rfl (hQ _ hW)
  · replace hF := i_neg b2 hF
    refine en_segs [(8, .iload_n 1, []), (9, .i2l, []), (10, .lconst 1, []), (11, .ldc2_w 546, [20])] (by decide +kernel) (y := (14, [some (.ref a0), some (.int p1), some (.int p2), some (.int p3), some (.int p4), some (.int p5), none, none, none, none], [.long 20, .long 1, .long ((p1 : Int32).toInt64)], h)) rfl ?_
    obtain ⟨r3, hr3, hF⟩ := ob_some hF
    refine en_si (r := []) (by decide +kernel : u_at kl_295 14 = some (.invokestatic 161, [170, 3])) rfl rfl (Nat.le_of_ble_eq_true rfl) (e_170 (D := D) (by omega) hW hr3) (fun h' q => ?_)
    subst q
    refine en_if_eq (by decide +kernel : u_at kl_295 17 = some (.ifCond .eq 39, [56])) (fun b4 => ?_) (fun b4 => ?_)
    · replace hF := i_pos b4 hF
      refine en_segs [(56, .iconst (-1), [])] (by decide +kernel) (y := (57, [some (.ref a0), some (.int p1), some (.int p2), some (.int p3), some (.int p4), some (.int p5), none, none, none, none], [.int (-1)], h)) rfl ?_
      obtain rfl := Option.some.inj hF
      exact en_ret (by decide +kernel : u_at kl_295 57 = some (.ireturn, [0])) rfl (hQ _ hW)
    · replace hF := i_neg b4 hF
      refine en_segs [(20, .iload_n 2, []), (21, .i2l, []), (22, .lconst 1, []), (23, .ldc2_w 548, [100])] (by decide +kernel) (y := (26, [some (.ref a0), some (.int p1), some (.int p2), some (.int p3), some (.int p4), some (.int p5), none, none, none, none], [.long 100, .long 1, .long ((p2 : Int32).toInt64)], h)) rfl ?_
      obtain ⟨r5, hr5, hF⟩ := ob_some hF
      refine en_si (r := []) (by decide +kernel : u_at kl_295 26 = some (.invokestatic 161, [170, 3])) rfl rfl (Nat.le_of_ble_eq_true rfl) (e_170 (D := D) (by omega) hW hr5) (fun h' q => ?_)
      subst q
      refine en_if_eq (by decide +kernel : u_at kl_295 29 = some (.ifCond .eq 27, [56])) (fun b6 => ?_) (fun b6 => ?_)
      · replace hF := i_pos b6 hF
        refine en_segs [(56, .iconst (-1), [])] (by decide +kernel) (y := (57, [some (.ref a0), some (.int p1), some (.int p2), some (.int p3), some (.int p4), some (.int p5), none, none, none, none], [.int (-1)], h)) rfl ?_
        obtain rfl := Option.some.inj hF
        exact en_ret (by decide +kernel : u_at kl_295 57 = some (.ireturn, [0])) rfl (hQ _ hW)
      · replace hF := i_neg b6 hF
        refine en_segs [(32, .iload 4, []), (34, .i2l, []), (35, .lconst 0, []), (36, .ldc2_w 412, [99])] (by decide +kernel) (y := (39, [some (.ref a0), some (.int p1), some (.int p2), some (.int p3), some (.int p4), some (.int p5), none, none, none, none], [.long 99, .long 0, .long ((p4 : Int32).toInt64)], h)) rfl ?_
        obtain ⟨r7, hr7, hF⟩ := ob_some hF
        refine en_si (r := []) (by decide +kernel : u_at kl_295 39 = some (.invokestatic 161, [170, 3])) rfl rfl (Nat.le_of_ble_eq_true rfl) (e_170 (D := D) (by omega) hW hr7) (fun h' q => ?_)
        subst q
        refine en_if_eq (by decide +kernel : u_at kl_295 42 = some (.ifCond .eq 14, [56])) (fun b8 => ?_) (fun b8 => ?_)
        · replace hF := i_pos b8 hF
          refine en_segs [(56, .iconst (-1), [])] (by decide +kernel) (y := (57, [some (.ref a0), some (.int p1), some (.int p2), some (.int p3), some (.int p4), some (.int p5), none, none, none, none], [.int (-1)], h)) rfl ?_
          obtain rfl := Option.some.inj hF
          exact en_ret (by decide +kernel : u_at kl_295 57 = some (.ireturn, [0])) rfl (hQ _ hW)
        · replace hF := i_neg b8 hF
          refine en_segs [(45, .iload 5, []), (47, .i2l, []), (48, .lconst 0, []), (49, .lconst 1, [])] (by decide +kernel) (y := (50, [some (.ref a0), some (.int p1), some (.int p2), some (.int p3), some (.int p4), some (.int p5), none, none, none, none], [.long 1, .long 0, .long ((p5 : Int32).toInt64)], h)) rfl ?_
          obtain ⟨r9, hr9, hF⟩ := ob_some hF
          refine en_si (r := []) (by decide +kernel : u_at kl_295 50 = some (.invokestatic 161, [170, 3])) rfl rfl (Nat.le_of_ble_eq_true rfl) (e_170 (D := D) (by omega) hW hr9) (fun h' q => ?_)
          subst q
          refine en_if_ne (by decide +kernel : u_at kl_295 53 = some (.ifCond .ne 5, [58])) (fun b10 => ?_) (fun b10 => ?_)
          · replace hF := i_pos b10 hF
            refine en_segs [(56, .iconst (-1), [])] (by decide +kernel) (y := (57, [some (.ref a0), some (.int p1), some (.int p2), some (.int p3), some (.int p4), some (.int p5), none, none, none, none], [.int (-1)], h)) rfl ?_
            obtain rfl := Option.some.inj hF
            exact en_ret (by decide +kernel : u_at kl_295 57 = some (.ireturn, [0])) rfl (hQ _ hW)
          · replace hF := i_neg b10 hF
            refine en_segs [(58, .aload_n 0, []), (59, .aload_n 0, [])] (by decide +kernel) (y := (60, [some (.ref a0), some (.int p1), some (.int p2), some (.int p3), some (.int p4), some (.int p5), none, none, none, none], [.ref a0, .ref a0], h)) rfl ?_
            refine en_get (by decide +kernel : u_at kl_295 60 = some (.getfield 528, [12, 21])) hW ha0 (by decide) rfl ?_
            refine en_segs [(63, .i2l, [])] (by decide +kernel) (y := (64, [some (.ref a0), some (.int p1), some (.int p2), some (.int p3), some (.int p4), some (.int p5), none, none, none, none], [.long ((cI c12 21 a0 : Int32).toInt64), .ref a0], h)) rfl ?_
            obtain ⟨c12_11, hc12_11, hF⟩ := ob_some hF
            refine en_putJ (by decide +kernel : u_at kl_295 64 = some (.putfield 531, [12, 46, 1])) hW ha0 rfl (by decide) rfl (fun h hW => ?_)
            have hW : HW (mkw c0 c1 c2 c3 c4 c5 c6 c7 c8 c9 c10 c11 c12_11 c13) d h := by rw [← Option.some.inj hc12_11]; exact hW
            refine en_segs [(67, .iconst 0, []), (68, .istore 6, []), (70, .iconst 0, []), (71, .istore 7, []), (73, .iconst 0, []), (74, .istore 8, [])] (by decide +kernel) (y := (76, [some (.ref a0), some (.int p1), some (.int p2), some (.int p3), some (.int p4), some (.int p5), some (.int 0), some (.int 0), some (.int 0), none], [], h)) rfl ?_
            exact (g_295 (D := D) hD ha0 _ _ _ _ _ _ hF).1 _ _ _ _ _ _ _ _ rfl rfl rfl rfl  _ hW _ hQ
def G_296 (c12 : Cl) (a0 : Nat) (lab : Nat) (xs : List Int32) (ys : List Int64) (zs : List Nat) : Option Int32 := match lab, xs, ys, zs with
  | 0, [x2, x3], [], [] =>
    ald (cA c12 20 a0) 221 2 >>= fun v27 =>
    if v27 ≤ x3 then
    some x2
    else
    F_224 c12 a0 x3 >>= fun r29 =>
    ((if r29 = 0 then
    some 0
    else
    some 1) : Option (Int32)) >>= fun (t30 : Int32) =>
    G_296 c12 a0 0 [x2 + t30, x3 + 1] [] []
  | 1, [x2, x3], [], [] =>
    if 6 ≤ x3 then
    some x2
    else
    ald (cA c12 20 a0) 221 ((94 + (3 * x3)) + 2) >>= fun v34 =>
    ald (cA c12 20 a0) 221 4 >>= fun v35 =>
    ((if v34 ≤ v35 then
    some 0
    else
    some 1) : Option (Int32)) >>= fun (t36 : Int32) =>
    G_296 c12 a0 1 [x2 + t36, x3 + 1] [] []
  | _, _, _, _ => none
partial_fixpoint
set_option maxRecDepth 100000 in
set_option maxHeartbeats 4000000 in
theorem g_296 {D : Nat} (hD : 3 ≤ D + 1) {c0 c1 c2 c3 c4 c5 c6 c7 c8 c9 c10 c11 c12 c13 : Cl} {d : Ad} {a0 : Nat} (ha0 : aK d a0 = (0, 12, 0)) : ∀ (lab : Nat) (xs : List Int32) (ys : List Int64) (zs : List Nat) (r : Int32), G_296 c12 a0 lab xs ys zs = some r →
    (∀ (x2 : Int32) (x3 : Int32), lab = 0 → xs = [x2, x3] → ys = [] → zs = [] → ∀ h : UH, HW (mkw c0 c1 c2 c3 c4 c5 c6 c7 c8 c9 c10 c11 c12 c13) d h → ∀ QQ : UR → Prop, QQ (some (.int r), h) → Ends (EX D) (u_at kl_296) (93, [some (.ref a0), none, some (.int x2), some (.int x3)], [], h) QQ) ∧
    (∀ (x2 : Int32) (x3 : Int32), lab = 1 → xs = [x2, x3] → ys = [] → zs = [] → ∀ h : UH, HW (mkw c0 c1 c2 c3 c4 c5 c6 c7 c8 c9 c10 c11 c12 c13) d h → ∀ QQ : UR → Prop, QQ (some (.int r), h) → Ends (EX D) (u_at kl_296) (129, [some (.ref a0), none, some (.int x2), some (.int x3)], [], h) QQ) := by
  refine G_296.partial_correctness _ _ (motive := fun lab xs ys zs r =>
    (∀ (x2 : Int32) (x3 : Int32), lab = 0 → xs = [x2, x3] → ys = [] → zs = [] → ∀ h : UH, HW (mkw c0 c1 c2 c3 c4 c5 c6 c7 c8 c9 c10 c11 c12 c13) d h → ∀ QQ : UR → Prop, QQ (some (.int r), h) → Ends (EX D) (u_at kl_296) (93, [some (.ref a0), none, some (.int x2), some (.int x3)], [], h) QQ) ∧
    (∀ (x2 : Int32) (x3 : Int32), lab = 1 → xs = [x2, x3] → ys = [] → zs = [] → ∀ h : UH, HW (mkw c0 c1 c2 c3 c4 c5 c6 c7 c8 c9 c10 c11 c12 c13) d h → ∀ QQ : UR → Prop, QQ (some (.int r), h) → Ends (EX D) (u_at kl_296) (129, [some (.ref a0), none, some (.int x2), some (.int x3)], [], h) QQ)) ?_
  intro G ih lab xs ys zs r hF
  refine ⟨?_, ?_⟩
  · intro x2 x3 e1 e2 e3 e4 h hW QQ hQ
    subst e1 e2 e3 e4
    refine en_segs [(93, .iload_n 3, []), (94, .aload_n 0, [])] (by decide +kernel) (y := (95, [some (.ref a0), none, some (.int x2), some (.int x3)], [.ref a0, .int x3], h)) rfl ?_
    refine en_get (by decide +kernel : u_at kl_296 95 = some (.getfield 39, [12, 20])) hW ha0 (by decide) rfl ?_
    refine en_segs [(98, .iconst 2, [])] (by decide +kernel) (y := (99, [some (.ref a0), none, some (.int x2), some (.int x3)], [.int 2, .ref (aP d 12 20 a0), .int x3], h)) rfl ?_
    obtain ⟨v27, hv27, hF⟩ := ob_some hF
    refine en_iald (by decide +kernel : u_at kl_296 99 = some (.iaload, [])) hW ha0 rfl (by decide) hv27 ?_
    refine en_ic_ge (by decide +kernel : u_at kl_296 100 = some (.if_icmp .ge 25, [125])) (fun b28 => ?_) (fun b28 => ?_)
    · replace hF := i_pos b28 hF
      refine en_segs [(125, .iload_n 2, [])] (by decide +kernel) (y := (126, [some (.ref a0), none, some (.int x2), some (.int x3)], [.int x2], h)) rfl ?_
      obtain rfl := Option.some.inj hF
      exact en_ret (by decide +kernel : u_at kl_296 126 = some (.ireturn, [0])) rfl (hQ)
    · replace hF := i_neg b28 hF
      refine en_segs [(103, .iload_n 2, []), (104, .aload_n 0, []), (105, .iload_n 3, [])] (by decide +kernel) (y := (106, [some (.ref a0), none, some (.int x2), some (.int x3)], [.int x3, .ref a0, .int x2], h)) rfl ?_
      obtain ⟨r29, hr29, hF⟩ := ob_some hF
      refine en_vi (r := [.int x2]) (by decide +kernel : u_at kl_296 106 = some (.invokevirtual 346, [224, 1, 12])) hW ha0 rfl rfl (Nat.le_of_ble_eq_true rfl) (e_224 (D := D) (by omega) hW ha0 hr29) (fun h' q => ?_)
      subst q
      obtain ⟨t30, hX, hK⟩ := ob_some hF
      have j31 : Ends (EX D) (u_at kl_296) (117, [some (.ref a0), none, some (.int x2), some (.int x3)], [.int t30, .int x2], h) QQ := by
        have hF := hK
        refine en_segs [(117, .iadd, []), (118, .istore_n 2, []), (119, .iinc 3 1, []), (122, .goto (-29), [93])] (by decide +kernel) (y := (93, [some (.ref a0), none, some (.int (x2 + t30)), some (.int (x3 + 1))], [], h)) rfl ?_
        exact (ih _ _ _ _ _ hF).1 _ _ rfl rfl rfl rfl  _ hW _ hQ
      have hF := hX
      refine en_if_eq (by decide +kernel : u_at kl_296 109 = some (.ifCond .eq 7, [116])) (fun b32 => ?_) (fun b32 => ?_)
      · replace hF := i_pos b32 hF
        refine en_segs [(116, .iconst 0, [])] (by decide +kernel) (y := (117, [some (.ref a0), none, some (.int x2), some (.int x3)], [.int 0, .int x2], h)) rfl ?_
        obtain rfl := Option.some.inj hF
        exact j31
      · replace hF := i_neg b32 hF
        refine en_segs [(112, .iconst 1, []), (113, .goto 4, [117])] (by decide +kernel) (y := (117, [some (.ref a0), none, some (.int x2), some (.int x3)], [.int 1, .int x2], h)) rfl ?_
        obtain rfl := Option.some.inj hF
        exact j31
  · intro x2 x3 e1 e2 e3 e4 h hW QQ hQ
    subst e1 e2 e3 e4
    refine en_segs [(129, .iload_n 3, []), (130, .bipush 6, [])] (by decide +kernel) (y := (132, [some (.ref a0), none, some (.int x2), some (.int x3)], [.int 6, .int x3], h)) rfl ?_
    refine en_ic_ge (by decide +kernel : u_at kl_296 132 = some (.if_icmp .ge 39, [171])) (fun b33 => ?_) (fun b33 => ?_)
    · replace hF := i_pos b33 hF
      refine en_segs [(171, .iload_n 2, [])] (by decide +kernel) (y := (172, [some (.ref a0), none, some (.int x2), some (.int x3)], [.int x2], h)) rfl ?_
      obtain rfl := Option.some.inj hF
      exact en_ret (by decide +kernel : u_at kl_296 172 = some (.ireturn, [0])) rfl (hQ)
    · replace hF := i_neg b33 hF
      refine en_segs [(135, .iload_n 2, []), (136, .aload_n 0, [])] (by decide +kernel) (y := (137, [some (.ref a0), none, some (.int x2), some (.int x3)], [.ref a0, .int x2], h)) rfl ?_
      refine en_get (by decide +kernel : u_at kl_296 137 = some (.getfield 39, [12, 20])) hW ha0 (by decide) rfl ?_
      refine en_segs [(140, .bipush 94, []), (142, .iconst 3, []), (143, .iload_n 3, []), (144, .imul, []), (145, .iadd, []), (146, .iconst 2, []), (147, .iadd, [])] (by decide +kernel) (y := (148, [some (.ref a0), none, some (.int x2), some (.int x3)], [.int ((94 + (3 * x3)) + 2), .ref (aP d 12 20 a0), .int x2], h)) rfl ?_
      obtain ⟨v34, hv34, hF⟩ := ob_some hF
      refine en_iald (by decide +kernel : u_at kl_296 148 = some (.iaload, [])) hW ha0 rfl (by decide) hv34 ?_
      refine en_segs [(149, .aload_n 0, [])] (by decide +kernel) (y := (150, [some (.ref a0), none, some (.int x2), some (.int x3)], [.ref a0, .int v34, .int x2], h)) rfl ?_
      refine en_get (by decide +kernel : u_at kl_296 150 = some (.getfield 39, [12, 20])) hW ha0 (by decide) rfl ?_
      refine en_segs [(153, .iconst 4, [])] (by decide +kernel) (y := (154, [some (.ref a0), none, some (.int x2), some (.int x3)], [.int 4, .ref (aP d 12 20 a0), .int v34, .int x2], h)) rfl ?_
      obtain ⟨v35, hv35, hF⟩ := ob_some hF
      refine en_iald (by decide +kernel : u_at kl_296 154 = some (.iaload, [])) hW ha0 rfl (by decide) hv35 ?_
      obtain ⟨t36, hX, hK⟩ := ob_some hF
      have j37 : Ends (EX D) (u_at kl_296) (163, [some (.ref a0), none, some (.int x2), some (.int x3)], [.int t36, .int x2], h) QQ := by
        have hF := hK
        refine en_segs [(163, .iadd, []), (164, .istore_n 2, []), (165, .iinc 3 1, []), (168, .goto (-39), [129])] (by decide +kernel) (y := (129, [some (.ref a0), none, some (.int (x2 + t36)), some (.int (x3 + 1))], [], h)) rfl ?_
        exact (ih _ _ _ _ _ hF).2 _ _ rfl rfl rfl rfl  _ hW _ hQ
      have hF := hX
      refine en_ic_le (by decide +kernel : u_at kl_296 155 = some (.if_icmp .le 7, [162])) (fun b38 => ?_) (fun b38 => ?_)
      · replace hF := i_pos b38 hF
        refine en_segs [(162, .iconst 0, [])] (by decide +kernel) (y := (163, [some (.ref a0), none, some (.int x2), some (.int x3)], [.int 0, .int x2], h)) rfl ?_
        obtain rfl := Option.some.inj hF
        exact j37
      · replace hF := i_neg b38 hF
        refine en_segs [(158, .iconst 1, []), (159, .goto 4, [163])] (by decide +kernel) (y := (163, [some (.ref a0), none, some (.int x2), some (.int x3)], [.int 1, .int x2], h)) rfl ?_
        obtain rfl := Option.some.inj hF
        exact j37
def F_296 (c12 : Cl) (a0 : Nat) (p1 : Int32) : Option Int32 :=
  if p1 = 0 then
  ald (cA c12 20 a0) 221 p1 >>= fun v2 =>
  some v2
  else
  if p1 = 1 then
  ald (cA c12 20 a0) 221 p1 >>= fun v4 =>
  some v4
  else
  if p1 = 2 then
  ald (cA c12 20 a0) 221 p1 >>= fun v6 =>
  some v6
  else
  if p1 = 3 then
  ald (cA c12 20 a0) 221 p1 >>= fun v8 =>
  some v8
  else
  if p1 = 4 then
  some (cI c12 2 a0)
  else
  if p1 = 5 then
  ald (cA c12 20 a0) 221 4 >>= fun v11 =>
  some v11
  else
  if p1 = 6 then
  G_296 c12 a0 0 [0, 0] [] []
  else
  if p1 = 7 then
  G_296 c12 a0 1 [0, 0] [] []
  else
  if p1 = 8 then
  ald (cA c12 20 a0) 221 220 >>= fun v15 =>
  some v15
  else
  if p1 = 9 then
  some (cI c12 23 a0)
  else
  if p1 = 10 then
  ald (cA c12 20 a0) 221 5 >>= fun v18 =>
  some v18
  else
  if p1 = 11 then
  F_218 c12 a0 >>= fun r20 =>
  ((if r20 = 0 then
  some (-1)
  else
  ald (cA c12 20 a0) 221 7 >>= fun v24 =>
  some v24) : Option (Int32)) >>= fun (t21 : Int32) =>
  some t21
  else
  if p1 = 12 then
  some (cI c12 21 a0)
  else
  if p1 = 13 then
  some (cI c12 1 a0)
  else
  some (-1)
set_option maxRecDepth 100000 in
set_option maxHeartbeats 4000000 in
/-- HeadCountsModel.count -/
theorem e_296 {D : Nat} {c0 c1 c2 c3 c4 c5 c6 c7 c8 c9 c10 c11 c12 c13 : Cl} {d : Ad} {h : UH} {a0 : Nat} {p1 : Int32} {r : Int32} (hD : 3 ≤ D) (hW : HW (mkw c0 c1 c2 c3 c4 c5 c6 c7 c8 c9 c10 c11 c12 c13) d h) (ha0 : aK d a0 = (0, 12, 0)) (hF : F_296 c12 a0 p1 = some r) : ∃ q, EX D 296 [.ref a0, .int p1] h q ∧ q.1 = some (.int r) ∧ h = q.2 := by
  obtain ⟨D, rfl⟩ : ∃ E, D = E + 1 := ⟨D - 1, by omega⟩
  unfold F_296 at hF
  refine ex_in (kl := kl_296) (nL := 4) rfl (by decide +kernel) (Nat.le_of_ble_eq_true rfl) ?_
  obtain ⟨QQ, hQQ⟩ : ∃ QQ : UR → Prop, QQ = (fun q : UR => q.1 = some (.int r) ∧ h = q.2) := ⟨_, rfl⟩
  rw [← hQQ]
  have hQ : QQ (some (.int r), h) := by rw [hQQ]; exact ⟨rfl, rfl⟩
  clear hQQ
  show Ends (EX D) (u_at kl_296) (0, [some (.ref a0), some (.int p1), none, none], [], h) QQ
  refine en_segs [(0, .iconst 0, []), (1, .istore_n 2, []), (2, .iload_n 1, [])] (by decide +kernel) (y := (3, [some (.ref a0), some (.int p1), some (.int 0), none], [.int p1], h)) rfl ?_
  by_cases b1 : p1 = 0
  · replace hF := i_pos b1 hF
    refine en_tsC (by decide +kernel : u_at kl_296 3 = some (.tableswitch 220 0 13 #[69, 69, 69, 69, 76, 81, 88, 124, 170, 179, 184, 191, 210, 215], [223, 72, 72, 72, 72, 79, 84, 91, 127, 173, 182, 187, 194, 213, 218])) (by rw [b1]; decide) (u := 72) (by rw [b1]; rfl) ?_
    refine en_segs [(72, .aload_n 0, [])] (by decide +kernel) (y := (73, [some (.ref a0), some (.int p1), some (.int 0), none], [.ref a0], h)) rfl ?_
    refine en_get (by decide +kernel : u_at kl_296 73 = some (.getfield 39, [12, 20])) hW ha0 (by decide) rfl ?_
    refine en_segs [(76, .iload_n 1, [])] (by decide +kernel) (y := (77, [some (.ref a0), some (.int p1), some (.int 0), none], [.int p1, .ref (aP d 12 20 a0)], h)) rfl ?_
    obtain ⟨v2, hv2, hF⟩ := ob_some hF
    refine en_iald (by decide +kernel : u_at kl_296 77 = some (.iaload, [])) hW ha0 rfl (by decide) hv2 ?_
    obtain rfl := Option.some.inj hF
    exact en_ret (by decide +kernel : u_at kl_296 78 = some (.ireturn, [0])) rfl (hQ)
  · replace hF := i_neg b1 hF
    by_cases b3 : p1 = 1
    · replace hF := i_pos b3 hF
      refine en_tsC (by decide +kernel : u_at kl_296 3 = some (.tableswitch 220 0 13 #[69, 69, 69, 69, 76, 81, 88, 124, 170, 179, 184, 191, 210, 215], [223, 72, 72, 72, 72, 79, 84, 91, 127, 173, 182, 187, 194, 213, 218])) (by rw [b3]; decide) (u := 72) (by rw [b3]; rfl) ?_
      refine en_segs [(72, .aload_n 0, [])] (by decide +kernel) (y := (73, [some (.ref a0), some (.int p1), some (.int 0), none], [.ref a0], h)) rfl ?_
      refine en_get (by decide +kernel : u_at kl_296 73 = some (.getfield 39, [12, 20])) hW ha0 (by decide) rfl ?_
      refine en_segs [(76, .iload_n 1, [])] (by decide +kernel) (y := (77, [some (.ref a0), some (.int p1), some (.int 0), none], [.int p1, .ref (aP d 12 20 a0)], h)) rfl ?_
      obtain ⟨v4, hv4, hF⟩ := ob_some hF
      refine en_iald (by decide +kernel : u_at kl_296 77 = some (.iaload, [])) hW ha0 rfl (by decide) hv4 ?_
      obtain rfl := Option.some.inj hF
      exact en_ret (by decide +kernel : u_at kl_296 78 = some (.ireturn, [0])) rfl (hQ)
    · replace hF := i_neg b3 hF
      by_cases b5 : p1 = 2
      · replace hF := i_pos b5 hF
        refine en_tsC (by decide +kernel : u_at kl_296 3 = some (.tableswitch 220 0 13 #[69, 69, 69, 69, 76, 81, 88, 124, 170, 179, 184, 191, 210, 215], [223, 72, 72, 72, 72, 79, 84, 91, 127, 173, 182, 187, 194, 213, 218])) (by rw [b5]; decide) (u := 72) (by rw [b5]; rfl) ?_
        refine en_segs [(72, .aload_n 0, [])] (by decide +kernel) (y := (73, [some (.ref a0), some (.int p1), some (.int 0), none], [.ref a0], h)) rfl ?_
        refine en_get (by decide +kernel : u_at kl_296 73 = some (.getfield 39, [12, 20])) hW ha0 (by decide) rfl ?_
        refine en_segs [(76, .iload_n 1, [])] (by decide +kernel) (y := (77, [some (.ref a0), some (.int p1), some (.int 0), none], [.int p1, .ref (aP d 12 20 a0)], h)) rfl ?_
        obtain ⟨v6, hv6, hF⟩ := ob_some hF
        refine en_iald (by decide +kernel : u_at kl_296 77 = some (.iaload, [])) hW ha0 rfl (by decide) hv6 ?_
        obtain rfl := Option.some.inj hF
        exact en_ret (by decide +kernel : u_at kl_296 78 = some (.ireturn, [0])) rfl (hQ)
      · replace hF := i_neg b5 hF
        by_cases b7 : p1 = 3
        · replace hF := i_pos b7 hF
          refine en_tsC (by decide +kernel : u_at kl_296 3 = some (.tableswitch 220 0 13 #[69, 69, 69, 69, 76, 81, 88, 124, 170, 179, 184, 191, 210, 215], [223, 72, 72, 72, 72, 79, 84, 91, 127, 173, 182, 187, 194, 213, 218])) (by rw [b7]; decide) (u := 72) (by rw [b7]; rfl) ?_
          refine en_segs [(72, .aload_n 0, [])] (by decide +kernel) (y := (73, [some (.ref a0), some (.int p1), some (.int 0), none], [.ref a0], h)) rfl ?_
          refine en_get (by decide +kernel : u_at kl_296 73 = some (.getfield 39, [12, 20])) hW ha0 (by decide) rfl ?_
          refine en_segs [(76, .iload_n 1, [])] (by decide +kernel) (y := (77, [some (.ref a0), some (.int p1), some (.int 0), none], [.int p1, .ref (aP d 12 20 a0)], h)) rfl ?_
          obtain ⟨v8, hv8, hF⟩ := ob_some hF
          refine en_iald (by decide +kernel : u_at kl_296 77 = some (.iaload, [])) hW ha0 rfl (by decide) hv8 ?_
          obtain rfl := Option.some.inj hF
          exact en_ret (by decide +kernel : u_at kl_296 78 = some (.ireturn, [0])) rfl (hQ)
        · replace hF := i_neg b7 hF
          by_cases b9 : p1 = 4
          · replace hF := i_pos b9 hF
            refine en_tsC (by decide +kernel : u_at kl_296 3 = some (.tableswitch 220 0 13 #[69, 69, 69, 69, 76, 81, 88, 124, 170, 179, 184, 191, 210, 215], [223, 72, 72, 72, 72, 79, 84, 91, 127, 173, 182, 187, 194, 213, 218])) (by rw [b9]; decide) (u := 79) (by rw [b9]; rfl) ?_
            refine en_segs [(79, .aload_n 0, [])] (by decide +kernel) (y := (80, [some (.ref a0), some (.int p1), some (.int 0), none], [.ref a0], h)) rfl ?_
            refine en_get (by decide +kernel : u_at kl_296 80 = some (.getfield 316, [12, 2])) hW ha0 (by decide) rfl ?_
            obtain rfl := Option.some.inj hF
            exact en_ret (by decide +kernel : u_at kl_296 83 = some (.ireturn, [0])) rfl (hQ)
          · replace hF := i_neg b9 hF
            by_cases b10 : p1 = 5
            · replace hF := i_pos b10 hF
              refine en_tsC (by decide +kernel : u_at kl_296 3 = some (.tableswitch 220 0 13 #[69, 69, 69, 69, 76, 81, 88, 124, 170, 179, 184, 191, 210, 215], [223, 72, 72, 72, 72, 79, 84, 91, 127, 173, 182, 187, 194, 213, 218])) (by rw [b10]; decide) (u := 84) (by rw [b10]; rfl) ?_
              refine en_segs [(84, .aload_n 0, [])] (by decide +kernel) (y := (85, [some (.ref a0), some (.int p1), some (.int 0), none], [.ref a0], h)) rfl ?_
              refine en_get (by decide +kernel : u_at kl_296 85 = some (.getfield 39, [12, 20])) hW ha0 (by decide) rfl ?_
              refine en_segs [(88, .iconst 4, [])] (by decide +kernel) (y := (89, [some (.ref a0), some (.int p1), some (.int 0), none], [.int 4, .ref (aP d 12 20 a0)], h)) rfl ?_
              obtain ⟨v11, hv11, hF⟩ := ob_some hF
              refine en_iald (by decide +kernel : u_at kl_296 89 = some (.iaload, [])) hW ha0 rfl (by decide) hv11 ?_
              obtain rfl := Option.some.inj hF
              exact en_ret (by decide +kernel : u_at kl_296 90 = some (.ireturn, [0])) rfl (hQ)
            · replace hF := i_neg b10 hF
              by_cases b12 : p1 = 6
              · replace hF := i_pos b12 hF
                refine en_tsC (by decide +kernel : u_at kl_296 3 = some (.tableswitch 220 0 13 #[69, 69, 69, 69, 76, 81, 88, 124, 170, 179, 184, 191, 210, 215], [223, 72, 72, 72, 72, 79, 84, 91, 127, 173, 182, 187, 194, 213, 218])) (by rw [b12]; decide) (u := 91) (by rw [b12]; rfl) ?_
                refine en_segs [(91, .iconst 0, []), (92, .istore_n 3, [])] (by decide +kernel) (y := (93, [some (.ref a0), some (.int p1), some (.int 0), some (.int 0)], [], h)) rfl ?_
                refine en_fg (fg_k (fg_d (fg_k (fg_k fg_0)))) ?_
                exact (g_296 (D := D) hD ha0 _ _ _ _ _ hF).1 _ _ rfl rfl rfl rfl  _ hW _ hQ
              · replace hF := i_neg b12 hF
                by_cases b13 : p1 = 7
                · replace hF := i_pos b13 hF
                  refine en_tsC (by decide +kernel : u_at kl_296 3 = some (.tableswitch 220 0 13 #[69, 69, 69, 69, 76, 81, 88, 124, 170, 179, 184, 191, 210, 215], [223, 72, 72, 72, 72, 79, 84, 91, 127, 173, 182, 187, 194, 213, 218])) (by rw [b13]; decide) (u := 127) (by rw [b13]; rfl) ?_
                  refine en_segs [(127, .iconst 0, []), (128, .istore_n 3, [])] (by decide +kernel) (y := (129, [some (.ref a0), some (.int p1), some (.int 0), some (.int 0)], [], h)) rfl ?_
                  refine en_fg (fg_k (fg_d (fg_k (fg_k fg_0)))) ?_
                  exact (g_296 (D := D) hD ha0 _ _ _ _ _ hF).2 _ _ rfl rfl rfl rfl  _ hW _ hQ
                · replace hF := i_neg b13 hF
                  by_cases b14 : p1 = 8
                  · replace hF := i_pos b14 hF
                    refine en_tsC (by decide +kernel : u_at kl_296 3 = some (.tableswitch 220 0 13 #[69, 69, 69, 69, 76, 81, 88, 124, 170, 179, 184, 191, 210, 215], [223, 72, 72, 72, 72, 79, 84, 91, 127, 173, 182, 187, 194, 213, 218])) (by rw [b14]; decide) (u := 173) (by rw [b14]; rfl) ?_
                    refine en_segs [(173, .aload_n 0, [])] (by decide +kernel) (y := (174, [some (.ref a0), some (.int p1), some (.int 0), none], [.ref a0], h)) rfl ?_
                    refine en_get (by decide +kernel : u_at kl_296 174 = some (.getfield 39, [12, 20])) hW ha0 (by decide) rfl ?_
                    refine en_segs [(177, .sipush 220, [])] (by decide +kernel) (y := (180, [some (.ref a0), some (.int p1), some (.int 0), none], [.int 220, .ref (aP d 12 20 a0)], h)) rfl ?_
                    obtain ⟨v15, hv15, hF⟩ := ob_some hF
                    refine en_iald (by decide +kernel : u_at kl_296 180 = some (.iaload, [])) hW ha0 rfl (by decide) hv15 ?_
                    obtain rfl := Option.some.inj hF
                    exact en_ret (by decide +kernel : u_at kl_296 181 = some (.ireturn, [0])) rfl (hQ)
                  · replace hF := i_neg b14 hF
                    by_cases b16 : p1 = 9
                    · replace hF := i_pos b16 hF
                      refine en_tsC (by decide +kernel : u_at kl_296 3 = some (.tableswitch 220 0 13 #[69, 69, 69, 69, 76, 81, 88, 124, 170, 179, 184, 191, 210, 215], [223, 72, 72, 72, 72, 79, 84, 91, 127, 173, 182, 187, 194, 213, 218])) (by rw [b16]; decide) (u := 182) (by rw [b16]; rfl) ?_
                      refine en_segs [(182, .aload_n 0, [])] (by decide +kernel) (y := (183, [some (.ref a0), some (.int p1), some (.int 0), none], [.ref a0], h)) rfl ?_
                      refine en_get (by decide +kernel : u_at kl_296 183 = some (.getfield 322, [12, 23])) hW ha0 (by decide) rfl ?_
                      obtain rfl := Option.some.inj hF
                      exact en_ret (by decide +kernel : u_at kl_296 186 = some (.ireturn, [0])) rfl (hQ)
                    · replace hF := i_neg b16 hF
                      by_cases b17 : p1 = 10
                      · replace hF := i_pos b17 hF
                        refine en_tsC (by decide +kernel : u_at kl_296 3 = some (.tableswitch 220 0 13 #[69, 69, 69, 69, 76, 81, 88, 124, 170, 179, 184, 191, 210, 215], [223, 72, 72, 72, 72, 79, 84, 91, 127, 173, 182, 187, 194, 213, 218])) (by rw [b17]; decide) (u := 187) (by rw [b17]; rfl) ?_
                        refine en_segs [(187, .aload_n 0, [])] (by decide +kernel) (y := (188, [some (.ref a0), some (.int p1), some (.int 0), none], [.ref a0], h)) rfl ?_
                        refine en_get (by decide +kernel : u_at kl_296 188 = some (.getfield 39, [12, 20])) hW ha0 (by decide) rfl ?_
                        refine en_segs [(191, .iconst 5, [])] (by decide +kernel) (y := (192, [some (.ref a0), some (.int p1), some (.int 0), none], [.int 5, .ref (aP d 12 20 a0)], h)) rfl ?_
                        obtain ⟨v18, hv18, hF⟩ := ob_some hF
                        refine en_iald (by decide +kernel : u_at kl_296 192 = some (.iaload, [])) hW ha0 rfl (by decide) hv18 ?_
                        obtain rfl := Option.some.inj hF
                        exact en_ret (by decide +kernel : u_at kl_296 193 = some (.ireturn, [0])) rfl (hQ)
                      · replace hF := i_neg b17 hF
                        by_cases b19 : p1 = 11
                        · replace hF := i_pos b19 hF
                          refine en_tsC (by decide +kernel : u_at kl_296 3 = some (.tableswitch 220 0 13 #[69, 69, 69, 69, 76, 81, 88, 124, 170, 179, 184, 191, 210, 215], [223, 72, 72, 72, 72, 79, 84, 91, 127, 173, 182, 187, 194, 213, 218])) (by rw [b19]; decide) (u := 194) (by rw [b19]; rfl) ?_
                          refine en_segs [(194, .aload_n 0, [])] (by decide +kernel) (y := (195, [some (.ref a0), some (.int p1), some (.int 0), none], [.ref a0], h)) rfl ?_
                          obtain ⟨r20, hr20, hF⟩ := ob_some hF
                          refine en_vi (r := []) (by decide +kernel : u_at kl_296 195 = some (.invokevirtual 409, [218, 0, 12])) hW ha0 rfl rfl (Nat.le_of_ble_eq_true rfl) (e_218 (D := D) (by omega) hW ha0 hr20) (fun h' q => ?_)
                          subst q
                          obtain ⟨t21, hX, hK⟩ := ob_some hF
                          have j22 : Ends (EX D) (u_at kl_296) (212, [some (.ref a0), some (.int p1), some (.int 0), none], [.int t21], h) QQ := by
                            have hF := hK
                            obtain rfl := Option.some.inj hF
                            exact en_ret (by decide +kernel : u_at kl_296 212 = some (.ireturn, [0])) rfl (hQ)
                          have hF := hX
                          refine en_if_eq (by decide +kernel : u_at kl_296 198 = some (.ifCond .eq 13, [211])) (fun b23 => ?_) (fun b23 => ?_)
                          · replace hF := i_pos b23 hF
                            refine en_segs [(211, .iconst (-1), [])] (by decide +kernel) (y := (212, [some (.ref a0), some (.int p1), some (.int 0), none], [.int (-1)], h)) rfl ?_
                            obtain rfl := Option.some.inj hF
                            exact j22
                          · replace hF := i_neg b23 hF
                            refine en_segs [(201, .aload_n 0, [])] (by decide +kernel) (y := (202, [some (.ref a0), some (.int p1), some (.int 0), none], [.ref a0], h)) rfl ?_
                            refine en_get (by decide +kernel : u_at kl_296 202 = some (.getfield 39, [12, 20])) hW ha0 (by decide) rfl ?_
                            refine en_segs [(205, .bipush 7, [])] (by decide +kernel) (y := (207, [some (.ref a0), some (.int p1), some (.int 0), none], [.int 7, .ref (aP d 12 20 a0)], h)) rfl ?_
                            obtain ⟨v24, hv24, hF⟩ := ob_some hF
                            refine en_iald (by decide +kernel : u_at kl_296 207 = some (.iaload, [])) hW ha0 rfl (by decide) hv24 ?_
                            refine en_segs [(208, .goto 4, [212])] (by decide +kernel) (y := (212, [some (.ref a0), some (.int p1), some (.int 0), none], [.int v24], h)) rfl ?_
                            obtain rfl := Option.some.inj hF
                            exact j22
                        · replace hF := i_neg b19 hF
                          by_cases b25 : p1 = 12
                          · replace hF := i_pos b25 hF
                            refine en_tsC (by decide +kernel : u_at kl_296 3 = some (.tableswitch 220 0 13 #[69, 69, 69, 69, 76, 81, 88, 124, 170, 179, 184, 191, 210, 215], [223, 72, 72, 72, 72, 79, 84, 91, 127, 173, 182, 187, 194, 213, 218])) (by rw [b25]; decide) (u := 213) (by rw [b25]; rfl) ?_
                            refine en_segs [(213, .aload_n 0, [])] (by decide +kernel) (y := (214, [some (.ref a0), some (.int p1), some (.int 0), none], [.ref a0], h)) rfl ?_
                            refine en_get (by decide +kernel : u_at kl_296 214 = some (.getfield 528, [12, 21])) hW ha0 (by decide) rfl ?_
                            obtain rfl := Option.some.inj hF
                            exact en_ret (by decide +kernel : u_at kl_296 217 = some (.ireturn, [0])) rfl (hQ)
                          · replace hF := i_neg b25 hF
                            by_cases b26 : p1 = 13
                            · replace hF := i_pos b26 hF
                              refine en_tsC (by decide +kernel : u_at kl_296 3 = some (.tableswitch 220 0 13 #[69, 69, 69, 69, 76, 81, 88, 124, 170, 179, 184, 191, 210, 215], [223, 72, 72, 72, 72, 79, 84, 91, 127, 173, 182, 187, 194, 213, 218])) (by rw [b26]; decide) (u := 218) (by rw [b26]; rfl) ?_
                              refine en_segs [(218, .aload_n 0, [])] (by decide +kernel) (y := (219, [some (.ref a0), some (.int p1), some (.int 0), none], [.ref a0], h)) rfl ?_
                              refine en_get (by decide +kernel : u_at kl_296 219 = some (.getfield 122, [12, 1])) hW ha0 (by decide) rfl ?_
                              obtain rfl := Option.some.inj hF
                              exact en_ret (by decide +kernel : u_at kl_296 222 = some (.ireturn, [0])) rfl (hQ)
                            · replace hF := i_neg b26 hF
                              have wb1 : (p1 : Int32).toInt ≠ 0 := ti_ne b1
                              have wb3 : (p1 : Int32).toInt ≠ 1 := ti_ne b3
                              have wb5 : (p1 : Int32).toInt ≠ 2 := ti_ne b5
                              have wb7 : (p1 : Int32).toInt ≠ 3 := ti_ne b7
                              have wb9 : (p1 : Int32).toInt ≠ 4 := ti_ne b9
                              have wb10 : (p1 : Int32).toInt ≠ 5 := ti_ne b10
                              have wb12 : (p1 : Int32).toInt ≠ 6 := ti_ne b12
                              have wb13 : (p1 : Int32).toInt ≠ 7 := ti_ne b13
                              have wb14 : (p1 : Int32).toInt ≠ 8 := ti_ne b14
                              have wb16 : (p1 : Int32).toInt ≠ 9 := ti_ne b16
                              have wb17 : (p1 : Int32).toInt ≠ 10 := ti_ne b17
                              have wb19 : (p1 : Int32).toInt ≠ 11 := ti_ne b19
                              have wb25 : (p1 : Int32).toInt ≠ 12 := ti_ne b25
                              have wb26 : (p1 : Int32).toInt ≠ 13 := ti_ne b26
                              refine en_tsO (by decide +kernel : u_at kl_296 3 = some (.tableswitch 220 0 13 #[69, 69, 69, 69, 76, 81, 88, 124, 170, 179, 184, 191, 210, 215], [223, 72, 72, 72, 72, 79, 84, 91, 127, 173, 182, 187, 194, 213, 218])) (by omega) ?_
                              refine en_segs [(223, .iconst (-1), [])] (by decide +kernel) (y := (224, [some (.ref a0), some (.int p1), some (.int 0), none], [.int (-1)], h)) rfl ?_
                              obtain rfl := Option.some.inj hF
                              exact en_ret (by decide +kernel : u_at kl_296 224 = some (.ireturn, [0])) rfl (hQ)
def G_297 (a0 : Nat) (lab : Nat) (xs : List Int32) (ys : List Int64) (zs : List Nat) (c12 : Cl) : Option (Int32 × Cl) := match lab, xs, ys, zs with
  | 0, [x1, x2], [], [] =>
    if 221 ≤ x2 then
    G_297 a0 1 [x1, 0] [] [] c12
    else
    ald (cA c12 20 a0) 221 x2 >>= fun v7 =>
    ast c12 47 a0 884 ((221 * x1) + x2) v7 >>= fun c12_8 =>
    G_297 a0 0 [x1, x2 + 1] [] [] c12_8
  | 1, [x1, x2], [], [] =>
    if (184 * (cI c12 23 a0)) ≤ x2 then
    ald (cA c12 20 a0) 221 4 >>= fun v10 =>
    some (v10, c12)
    else
    ald (cA c12 22 a0) 3680 x2 >>= fun v11 =>
    ast c12 48 a0 14720 ((3680 * x1) + x2) v11 >>= fun c12_12 =>
    G_297 a0 1 [x1, x2 + 1] [] [] c12_12
  | _, _, _, _ => none
partial_fixpoint
set_option maxRecDepth 100000 in
set_option maxHeartbeats 4000000 in
theorem g_297 {D : Nat} (hD : 2 ≤ D + 1) {c0 c1 c2 c3 c4 c5 c6 c7 c8 c9 c10 c11 c13 : Cl} {d : Ad} {a0 : Nat} (ha0 : aK d a0 = (0, 12, 0)) : ∀ (lab : Nat) (xs : List Int32) (ys : List Int64) (zs : List Nat) (c12 : Cl) (r : (Int32 × Cl)), G_297 a0 lab xs ys zs c12 = some r →
    (∀ (x1 : Int32) (x2 : Int32), lab = 0 → xs = [x1, x2] → ys = [] → zs = [] → ∀ h : UH, HW (mkw c0 c1 c2 c3 c4 c5 c6 c7 c8 c9 c10 c11 c12 c13) d h → ∀ QQ : UR → Prop, (∀ h' : UH, HW (mkw c0 c1 c2 c3 c4 c5 c6 c7 c8 c9 c10 c11 r.2 c13) d h' → QQ (some (.int r.1), h')) → Ends (EX D) (u_at kl_297) (43, [some (.ref a0), some (.int x1), some (.int x2)], [], h) QQ) ∧
    (∀ (x1 : Int32) (x2 : Int32), lab = 1 → xs = [x1, x2] → ys = [] → zs = [] → ∀ h : UH, HW (mkw c0 c1 c2 c3 c4 c5 c6 c7 c8 c9 c10 c11 c12 c13) d h → ∀ QQ : UR → Prop, (∀ h' : UH, HW (mkw c0 c1 c2 c3 c4 c5 c6 c7 c8 c9 c10 c11 r.2 c13) d h' → QQ (some (.int r.1), h')) → Ends (EX D) (u_at kl_297) (76, [some (.ref a0), some (.int x1), some (.int x2)], [], h) QQ) := by
  refine G_297.partial_correctness _ (motive := fun lab xs ys zs c12 r =>
    (∀ (x1 : Int32) (x2 : Int32), lab = 0 → xs = [x1, x2] → ys = [] → zs = [] → ∀ h : UH, HW (mkw c0 c1 c2 c3 c4 c5 c6 c7 c8 c9 c10 c11 c12 c13) d h → ∀ QQ : UR → Prop, (∀ h' : UH, HW (mkw c0 c1 c2 c3 c4 c5 c6 c7 c8 c9 c10 c11 r.2 c13) d h' → QQ (some (.int r.1), h')) → Ends (EX D) (u_at kl_297) (43, [some (.ref a0), some (.int x1), some (.int x2)], [], h) QQ) ∧
    (∀ (x1 : Int32) (x2 : Int32), lab = 1 → xs = [x1, x2] → ys = [] → zs = [] → ∀ h : UH, HW (mkw c0 c1 c2 c3 c4 c5 c6 c7 c8 c9 c10 c11 c12 c13) d h → ∀ QQ : UR → Prop, (∀ h' : UH, HW (mkw c0 c1 c2 c3 c4 c5 c6 c7 c8 c9 c10 c11 r.2 c13) d h' → QQ (some (.int r.1), h')) → Ends (EX D) (u_at kl_297) (76, [some (.ref a0), some (.int x1), some (.int x2)], [], h) QQ)) ?_
  intro G ih lab xs ys zs c12 r hF
  refine ⟨?_, ?_⟩
  · intro x1 x2 e1 e2 e3 e4 h hW QQ hQ
    subst e1 e2 e3 e4
    refine en_segs [(43, .iload_n 2, []), (44, .sipush 221, [])] (by decide +kernel) (y := (47, [some (.ref a0), some (.int x1), some (.int x2)], [.int 221, .int x2], h)) rfl ?_
    refine en_ic_ge (by decide +kernel : u_at kl_297 47 = some (.if_icmp .ge 27, [74])) (fun b6 => ?_) (fun b6 => ?_)
    · replace hF := i_pos b6 hF
      refine en_segs [(74, .iconst 0, []), (75, .istore_n 2, [])] (by decide +kernel) (y := (76, [some (.ref a0), some (.int x1), some (.int 0)], [], h)) rfl ?_
      exact (ih _ _ _ _ _ _ hF).2 _ _ rfl rfl rfl rfl  _ hW _ hQ
    · replace hF := i_neg b6 hF
      refine en_segs [(50, .aload_n 0, [])] (by decide +kernel) (y := (51, [some (.ref a0), some (.int x1), some (.int x2)], [.ref a0], h)) rfl ?_
      refine en_get (by decide +kernel : u_at kl_297 51 = some (.getfield 107, [12, 47])) hW ha0 (by decide) rfl ?_
      refine en_segs [(54, .sipush 221, []), (57, .iload_n 1, []), (58, .imul, []), (59, .iload_n 2, []), (60, .iadd, []), (61, .aload_n 0, [])] (by decide +kernel) (y := (62, [some (.ref a0), some (.int x1), some (.int x2)], [.ref a0, .int ((221 * x1) + x2), .ref (aP d 12 47 a0)], h)) rfl ?_
      refine en_get (by decide +kernel : u_at kl_297 62 = some (.getfield 39, [12, 20])) hW ha0 (by decide) rfl ?_
      refine en_segs [(65, .iload_n 2, [])] (by decide +kernel) (y := (66, [some (.ref a0), some (.int x1), some (.int x2)], [.int x2, .ref (aP d 12 20 a0), .int ((221 * x1) + x2), .ref (aP d 12 47 a0)], h)) rfl ?_
      obtain ⟨v7, hv7, hF⟩ := ob_some hF
      refine en_iald (by decide +kernel : u_at kl_297 66 = some (.iaload, [])) hW ha0 rfl (by decide) hv7 ?_
      obtain ⟨c12_8, hc12_8, hF⟩ := ob_some hF
      refine en_iast (by decide +kernel : u_at kl_297 67 = some (.iastore, [])) hW ha0 rfl (by decide) hc12_8 (fun h hW => ?_)
      have hW : HW (mkw c0 c1 c2 c3 c4 c5 c6 c7 c8 c9 c10 c11 c12_8 c13) d h := hW
      refine en_segs [(68, .iinc 2 1, []), (71, .goto (-28), [43])] (by decide +kernel) (y := (43, [some (.ref a0), some (.int x1), some (.int (x2 + 1))], [], h)) rfl ?_
      exact (ih _ _ _ _ _ _ hF).1 _ _ rfl rfl rfl rfl  _ hW _ hQ
  · intro x1 x2 e1 e2 e3 e4 h hW QQ hQ
    subst e1 e2 e3 e4
    refine en_segs [(76, .iload_n 2, []), (77, .sipush 184, []), (80, .aload_n 0, [])] (by decide +kernel) (y := (81, [some (.ref a0), some (.int x1), some (.int x2)], [.ref a0, .int 184, .int x2], h)) rfl ?_
    refine en_get (by decide +kernel : u_at kl_297 81 = some (.getfield 322, [12, 23])) hW ha0 (by decide) rfl ?_
    refine en_segs [(84, .imul, [])] (by decide +kernel) (y := (85, [some (.ref a0), some (.int x1), some (.int x2)], [.int (184 * (cI c12 23 a0)), .int x2], h)) rfl ?_
    refine en_ic_ge (by decide +kernel : u_at kl_297 85 = some (.if_icmp .ge 27, [112])) (fun b9 => ?_) (fun b9 => ?_)
    · replace hF := i_pos b9 hF
      refine en_segs [(112, .aload_n 0, [])] (by decide +kernel) (y := (113, [some (.ref a0), some (.int x1), some (.int x2)], [.ref a0], h)) rfl ?_
      refine en_get (by decide +kernel : u_at kl_297 113 = some (.getfield 39, [12, 20])) hW ha0 (by decide) rfl ?_
      refine en_segs [(116, .iconst 4, [])] (by decide +kernel) (y := (117, [some (.ref a0), some (.int x1), some (.int x2)], [.int 4, .ref (aP d 12 20 a0)], h)) rfl ?_
      obtain ⟨v10, hv10, hF⟩ := ob_some hF
      refine en_iald (by decide +kernel : u_at kl_297 117 = some (.iaload, [])) hW ha0 rfl (by decide) hv10 ?_
      obtain rfl := Option.some.inj hF
      exact en_ret (by decide +kernel : u_at kl_297 118 = some (.ireturn, [0])) rfl (hQ _ hW)
    · replace hF := i_neg b9 hF
      refine en_segs [(88, .aload_n 0, [])] (by decide +kernel) (y := (89, [some (.ref a0), some (.int x1), some (.int x2)], [.ref a0], h)) rfl ?_
      refine en_get (by decide +kernel : u_at kl_297 89 = some (.getfield 110, [12, 48])) hW ha0 (by decide) rfl ?_
      refine en_segs [(92, .sipush 3680, []), (95, .iload_n 1, []), (96, .imul, []), (97, .iload_n 2, []), (98, .iadd, []), (99, .aload_n 0, [])] (by decide +kernel) (y := (100, [some (.ref a0), some (.int x1), some (.int x2)], [.ref a0, .int ((3680 * x1) + x2), .ref (aP d 12 48 a0)], h)) rfl ?_
      refine en_get (by decide +kernel : u_at kl_297 100 = some (.getfield 42, [12, 22])) hW ha0 (by decide) rfl ?_
      refine en_segs [(103, .iload_n 2, [])] (by decide +kernel) (y := (104, [some (.ref a0), some (.int x1), some (.int x2)], [.int x2, .ref (aP d 12 22 a0), .int ((3680 * x1) + x2), .ref (aP d 12 48 a0)], h)) rfl ?_
      obtain ⟨v11, hv11, hF⟩ := ob_some hF
      refine en_iald (by decide +kernel : u_at kl_297 104 = some (.iaload, [])) hW ha0 rfl (by decide) hv11 ?_
      obtain ⟨c12_12, hc12_12, hF⟩ := ob_some hF
      refine en_iast (by decide +kernel : u_at kl_297 105 = some (.iastore, [])) hW ha0 rfl (by decide) hc12_12 (fun h hW => ?_)
      have hW : HW (mkw c0 c1 c2 c3 c4 c5 c6 c7 c8 c9 c10 c11 c12_12 c13) d h := hW
      refine en_segs [(106, .iinc 2 1, []), (109, .goto (-33), [76])] (by decide +kernel) (y := (76, [some (.ref a0), some (.int x1), some (.int (x2 + 1))], [], h)) rfl ?_
      exact (ih _ _ _ _ _ _ hF).2 _ _ rfl rfl rfl rfl  _ hW _ hQ
def F_297 (c12 : Cl) (a0 : Nat) (p1 : Int32) : Option (Int32 × Cl) :=
  F_170 ((p1 : Int32).toInt64) 0 3 >>= fun r1 =>
  if r1 = 0 then
  some ((-1), c12)
  else
  ast c12 51 a0 4 p1 (vp_nar .boolean 1) >>= fun c12_3 =>
  ast c12_3 49 a0 4 p1 (cI c12_3 23 a0) >>= fun c12_4 =>
  ast c12_4 50 a0 4 p1 (cI c12_4 21 a0) >>= fun c12_5 =>
  G_297 a0 0 [p1, 0] [] [] c12_5
set_option maxRecDepth 100000 in
set_option maxHeartbeats 4000000 in
/-- HeadCountsModel.image -/
theorem e_297 {D : Nat} {c0 c1 c2 c3 c4 c5 c6 c7 c8 c9 c10 c11 c12 c13 : Cl} {d : Ad} {h : UH} {a0 : Nat} {p1 : Int32} {r : (Int32 × Cl)} (hD : 2 ≤ D) (hW : HW (mkw c0 c1 c2 c3 c4 c5 c6 c7 c8 c9 c10 c11 c12 c13) d h) (ha0 : aK d a0 = (0, 12, 0)) (hF : F_297 c12 a0 p1 = some r) : ∃ q, EX D 297 [.ref a0, .int p1] h q ∧ q.1 = some (.int r.1) ∧ HW (mkw c0 c1 c2 c3 c4 c5 c6 c7 c8 c9 c10 c11 r.2 c13) d q.2 := by
  obtain ⟨D, rfl⟩ : ∃ E, D = E + 1 := ⟨D - 1, by omega⟩
  unfold F_297 at hF
  refine ex_in (kl := kl_297) (nL := 3) rfl (by decide +kernel) (Nat.le_of_ble_eq_true rfl) ?_
  obtain ⟨QQ, hQQ⟩ : ∃ QQ : UR → Prop, QQ = (fun q : UR => q.1 = some (.int r.1) ∧ HW (mkw c0 c1 c2 c3 c4 c5 c6 c7 c8 c9 c10 c11 r.2 c13) d q.2) := ⟨_, rfl⟩
  rw [← hQQ]
  have hQ : ∀ h' : UH, HW (mkw c0 c1 c2 c3 c4 c5 c6 c7 c8 c9 c10 c11 r.2 c13) d h' → QQ (some (.int r.1), h') := fun h' p => by rw [hQQ]; exact ⟨rfl, p⟩
  clear hQQ
  show Ends (EX D) (u_at kl_297) (0, [some (.ref a0), some (.int p1), none], [], h) QQ
  refine en_segs [(0, .iload_n 1, []), (1, .i2l, []), (2, .lconst 0, []), (3, .ldc2_w 553, [3])] (by decide +kernel) (y := (6, [some (.ref a0), some (.int p1), none], [.long 3, .long 0, .long ((p1 : Int32).toInt64)], h)) rfl ?_
  obtain ⟨r1, hr1, hF⟩ := ob_some hF
  refine en_si (r := []) (by decide +kernel : u_at kl_297 6 = some (.invokestatic 161, [170, 3])) rfl rfl (Nat.le_of_ble_eq_true rfl) (e_170 (D := D) (by omega) hW hr1) (fun h' q => ?_)
  subst q
  refine en_if_ne (by decide +kernel : u_at kl_297 9 = some (.ifCond .ne 5, [14])) (fun b2 => ?_) (fun b2 => ?_)
  · replace hF := i_pos b2 hF
    refine en_segs [(12, .iconst (-1), [])] (by decide +kernel) (y := (13, [some (.ref a0), some (.int p1), none], [.int (-1)], h)) rfl ?_
    obtain rfl := Option.some.inj hF
    exact en_ret (by decide +kernel : u_at kl_297 13 = some (.ireturn, [0])) rfl (hQ _ hW)
  · replace hF := i_neg b2 hF
    refine en_segs [(14, .aload_n 0, [])] (by decide +kernel) (y := (15, [some (.ref a0), some (.int p1), none], [.ref a0], h)) rfl ?_
    refine en_get (by decide +kernel : u_at kl_297 15 = some (.getfield 119, [12, 51])) hW ha0 (by decide) rfl ?_
    refine en_segs [(18, .iload_n 1, []), (19, .iconst 1, [])] (by decide +kernel) (y := (20, [some (.ref a0), some (.int p1), none], [.int 1, .int p1, .ref (aP d 12 51 a0)], h)) rfl ?_
    obtain ⟨c12_3, hc12_3, hF⟩ := ob_some hF
    refine en_zast (by decide +kernel : u_at kl_297 20 = some (.bastore, [])) hW ha0 rfl (by decide) hc12_3 (fun h hW => ?_)
    have hW : HW (mkw c0 c1 c2 c3 c4 c5 c6 c7 c8 c9 c10 c11 c12_3 c13) d h := hW
    refine en_segs [(21, .aload_n 0, [])] (by decide +kernel) (y := (22, [some (.ref a0), some (.int p1), none], [.ref a0], h)) rfl ?_
    refine en_get (by decide +kernel : u_at kl_297 22 = some (.getfield 113, [12, 49])) hW ha0 (by decide) rfl ?_
    refine en_segs [(25, .iload_n 1, []), (26, .aload_n 0, [])] (by decide +kernel) (y := (27, [some (.ref a0), some (.int p1), none], [.ref a0, .int p1, .ref (aP d 12 49 a0)], h)) rfl ?_
    refine en_get (by decide +kernel : u_at kl_297 27 = some (.getfield 322, [12, 23])) hW ha0 (by decide) rfl ?_
    obtain ⟨c12_4, hc12_4, hF⟩ := ob_some hF
    refine en_iast (by decide +kernel : u_at kl_297 30 = some (.iastore, [])) hW ha0 rfl (by decide) hc12_4 (fun h hW => ?_)
    have hW : HW (mkw c0 c1 c2 c3 c4 c5 c6 c7 c8 c9 c10 c11 c12_4 c13) d h := hW
    refine en_segs [(31, .aload_n 0, [])] (by decide +kernel) (y := (32, [some (.ref a0), some (.int p1), none], [.ref a0], h)) rfl ?_
    refine en_get (by decide +kernel : u_at kl_297 32 = some (.getfield 116, [12, 50])) hW ha0 (by decide) rfl ?_
    refine en_segs [(35, .iload_n 1, []), (36, .aload_n 0, [])] (by decide +kernel) (y := (37, [some (.ref a0), some (.int p1), none], [.ref a0, .int p1, .ref (aP d 12 50 a0)], h)) rfl ?_
    refine en_get (by decide +kernel : u_at kl_297 37 = some (.getfield 528, [12, 21])) hW ha0 (by decide) rfl ?_
    obtain ⟨c12_5, hc12_5, hF⟩ := ob_some hF
    refine en_iast (by decide +kernel : u_at kl_297 40 = some (.iastore, [])) hW ha0 rfl (by decide) hc12_5 (fun h hW => ?_)
    have hW : HW (mkw c0 c1 c2 c3 c4 c5 c6 c7 c8 c9 c10 c11 c12_5 c13) d h := hW
    refine en_segs [(41, .iconst 0, []), (42, .istore_n 2, [])] (by decide +kernel) (y := (43, [some (.ref a0), some (.int p1), some (.int 0)], [], h)) rfl ?_
    exact (g_297 (D := D) hD ha0 _ _ _ _ _ _ hF).1 _ _ rfl rfl rfl rfl  _ hW _ hQ
def G_298 (a0 : Nat) (lab : Nat) (xs : List Int32) (ys : List Int64) (zs : List Nat) (c12 : Cl) : Option (Int32 × Cl) := match lab, xs, ys, zs with
  | 0, [x1, x2], [], [] =>
    if 221 ≤ x2 then
    G_298 a0 1 [x1, 0] [] [] c12
    else
    ald (cA c12 47 a0) 884 ((221 * x1) + x2) >>= fun v10 =>
    ast c12 20 a0 221 x2 v10 >>= fun c12_11 =>
    G_298 a0 0 [x1, x2 + 1] [] [] c12_11
  | 1, [x1, x2], [], [] =>
    if (184 * (cI c12 23 a0)) ≤ x2 then
    ald (cA c12 20 a0) 221 4 >>= fun v13 =>
    some (v13, c12)
    else
    ald (cA c12 48 a0) 14720 ((3680 * x1) + x2) >>= fun v14 =>
    ast c12 22 a0 3680 x2 v14 >>= fun c12_15 =>
    G_298 a0 1 [x1, x2 + 1] [] [] c12_15
  | _, _, _, _ => none
partial_fixpoint
set_option maxRecDepth 100000 in
set_option maxHeartbeats 4000000 in
theorem g_298 {D : Nat} (hD : 2 ≤ D + 1) {c0 c1 c2 c3 c4 c5 c6 c7 c8 c9 c10 c11 c13 : Cl} {d : Ad} {a0 : Nat} (ha0 : aK d a0 = (0, 12, 0)) : ∀ (lab : Nat) (xs : List Int32) (ys : List Int64) (zs : List Nat) (c12 : Cl) (r : (Int32 × Cl)), G_298 a0 lab xs ys zs c12 = some r →
    (∀ (x1 : Int32) (x2 : Int32), lab = 0 → xs = [x1, x2] → ys = [] → zs = [] → ∀ h : UH, HW (mkw c0 c1 c2 c3 c4 c5 c6 c7 c8 c9 c10 c11 c12 c13) d h → ∀ QQ : UR → Prop, (∀ h' : UH, HW (mkw c0 c1 c2 c3 c4 c5 c6 c7 c8 c9 c10 c11 r.2 c13) d h' → QQ (some (.int r.1), h')) → Ends (EX D) (u_at kl_298) (45, [some (.ref a0), some (.int x1), some (.int x2)], [], h) QQ) ∧
    (∀ (x1 : Int32) (x2 : Int32), lab = 1 → xs = [x1, x2] → ys = [] → zs = [] → ∀ h : UH, HW (mkw c0 c1 c2 c3 c4 c5 c6 c7 c8 c9 c10 c11 c12 c13) d h → ∀ QQ : UR → Prop, (∀ h' : UH, HW (mkw c0 c1 c2 c3 c4 c5 c6 c7 c8 c9 c10 c11 r.2 c13) d h' → QQ (some (.int r.1), h')) → Ends (EX D) (u_at kl_298) (78, [some (.ref a0), some (.int x1), some (.int x2)], [], h) QQ) := by
  refine G_298.partial_correctness _ (motive := fun lab xs ys zs c12 r =>
    (∀ (x1 : Int32) (x2 : Int32), lab = 0 → xs = [x1, x2] → ys = [] → zs = [] → ∀ h : UH, HW (mkw c0 c1 c2 c3 c4 c5 c6 c7 c8 c9 c10 c11 c12 c13) d h → ∀ QQ : UR → Prop, (∀ h' : UH, HW (mkw c0 c1 c2 c3 c4 c5 c6 c7 c8 c9 c10 c11 r.2 c13) d h' → QQ (some (.int r.1), h')) → Ends (EX D) (u_at kl_298) (45, [some (.ref a0), some (.int x1), some (.int x2)], [], h) QQ) ∧
    (∀ (x1 : Int32) (x2 : Int32), lab = 1 → xs = [x1, x2] → ys = [] → zs = [] → ∀ h : UH, HW (mkw c0 c1 c2 c3 c4 c5 c6 c7 c8 c9 c10 c11 c12 c13) d h → ∀ QQ : UR → Prop, (∀ h' : UH, HW (mkw c0 c1 c2 c3 c4 c5 c6 c7 c8 c9 c10 c11 r.2 c13) d h' → QQ (some (.int r.1), h')) → Ends (EX D) (u_at kl_298) (78, [some (.ref a0), some (.int x1), some (.int x2)], [], h) QQ)) ?_
  intro G ih lab xs ys zs c12 r hF
  refine ⟨?_, ?_⟩
  · intro x1 x2 e1 e2 e3 e4 h hW QQ hQ
    subst e1 e2 e3 e4
    refine en_segs [(45, .iload_n 2, []), (46, .sipush 221, [])] (by decide +kernel) (y := (49, [some (.ref a0), some (.int x1), some (.int x2)], [.int 221, .int x2], h)) rfl ?_
    refine en_ic_ge (by decide +kernel : u_at kl_298 49 = some (.if_icmp .ge 27, [76])) (fun b9 => ?_) (fun b9 => ?_)
    · replace hF := i_pos b9 hF
      refine en_segs [(76, .iconst 0, []), (77, .istore_n 2, [])] (by decide +kernel) (y := (78, [some (.ref a0), some (.int x1), some (.int 0)], [], h)) rfl ?_
      exact (ih _ _ _ _ _ _ hF).2 _ _ rfl rfl rfl rfl  _ hW _ hQ
    · replace hF := i_neg b9 hF
      refine en_segs [(52, .aload_n 0, [])] (by decide +kernel) (y := (53, [some (.ref a0), some (.int x1), some (.int x2)], [.ref a0], h)) rfl ?_
      refine en_get (by decide +kernel : u_at kl_298 53 = some (.getfield 39, [12, 20])) hW ha0 (by decide) rfl ?_
      refine en_segs [(56, .iload_n 2, []), (57, .aload_n 0, [])] (by decide +kernel) (y := (58, [some (.ref a0), some (.int x1), some (.int x2)], [.ref a0, .int x2, .ref (aP d 12 20 a0)], h)) rfl ?_
      refine en_get (by decide +kernel : u_at kl_298 58 = some (.getfield 107, [12, 47])) hW ha0 (by decide) rfl ?_
      refine en_segs [(61, .sipush 221, []), (64, .iload_n 1, []), (65, .imul, []), (66, .iload_n 2, []), (67, .iadd, [])] (by decide +kernel) (y := (68, [some (.ref a0), some (.int x1), some (.int x2)], [.int ((221 * x1) + x2), .ref (aP d 12 47 a0), .int x2, .ref (aP d 12 20 a0)], h)) rfl ?_
      obtain ⟨v10, hv10, hF⟩ := ob_some hF
      refine en_iald (by decide +kernel : u_at kl_298 68 = some (.iaload, [])) hW ha0 rfl (by decide) hv10 ?_
      obtain ⟨c12_11, hc12_11, hF⟩ := ob_some hF
      refine en_iast (by decide +kernel : u_at kl_298 69 = some (.iastore, [])) hW ha0 rfl (by decide) hc12_11 (fun h hW => ?_)
      have hW : HW (mkw c0 c1 c2 c3 c4 c5 c6 c7 c8 c9 c10 c11 c12_11 c13) d h := hW
      refine en_segs [(70, .iinc 2 1, []), (73, .goto (-28), [45])] (by decide +kernel) (y := (45, [some (.ref a0), some (.int x1), some (.int (x2 + 1))], [], h)) rfl ?_
      exact (ih _ _ _ _ _ _ hF).1 _ _ rfl rfl rfl rfl  _ hW _ hQ
  · intro x1 x2 e1 e2 e3 e4 h hW QQ hQ
    subst e1 e2 e3 e4
    refine en_segs [(78, .iload_n 2, []), (79, .sipush 184, []), (82, .aload_n 0, [])] (by decide +kernel) (y := (83, [some (.ref a0), some (.int x1), some (.int x2)], [.ref a0, .int 184, .int x2], h)) rfl ?_
    refine en_get (by decide +kernel : u_at kl_298 83 = some (.getfield 322, [12, 23])) hW ha0 (by decide) rfl ?_
    refine en_segs [(86, .imul, [])] (by decide +kernel) (y := (87, [some (.ref a0), some (.int x1), some (.int x2)], [.int (184 * (cI c12 23 a0)), .int x2], h)) rfl ?_
    refine en_ic_ge (by decide +kernel : u_at kl_298 87 = some (.if_icmp .ge 27, [114])) (fun b12 => ?_) (fun b12 => ?_)
    · replace hF := i_pos b12 hF
      refine en_segs [(114, .aload_n 0, [])] (by decide +kernel) (y := (115, [some (.ref a0), some (.int x1), some (.int x2)], [.ref a0], h)) rfl ?_
      refine en_get (by decide +kernel : u_at kl_298 115 = some (.getfield 39, [12, 20])) hW ha0 (by decide) rfl ?_
      refine en_segs [(118, .iconst 4, [])] (by decide +kernel) (y := (119, [some (.ref a0), some (.int x1), some (.int x2)], [.int 4, .ref (aP d 12 20 a0)], h)) rfl ?_
      obtain ⟨v13, hv13, hF⟩ := ob_some hF
      refine en_iald (by decide +kernel : u_at kl_298 119 = some (.iaload, [])) hW ha0 rfl (by decide) hv13 ?_
      obtain rfl := Option.some.inj hF
      exact en_ret (by decide +kernel : u_at kl_298 120 = some (.ireturn, [0])) rfl (hQ _ hW)
    · replace hF := i_neg b12 hF
      refine en_segs [(90, .aload_n 0, [])] (by decide +kernel) (y := (91, [some (.ref a0), some (.int x1), some (.int x2)], [.ref a0], h)) rfl ?_
      refine en_get (by decide +kernel : u_at kl_298 91 = some (.getfield 42, [12, 22])) hW ha0 (by decide) rfl ?_
      refine en_segs [(94, .iload_n 2, []), (95, .aload_n 0, [])] (by decide +kernel) (y := (96, [some (.ref a0), some (.int x1), some (.int x2)], [.ref a0, .int x2, .ref (aP d 12 22 a0)], h)) rfl ?_
      refine en_get (by decide +kernel : u_at kl_298 96 = some (.getfield 110, [12, 48])) hW ha0 (by decide) rfl ?_
      refine en_segs [(99, .sipush 3680, []), (102, .iload_n 1, []), (103, .imul, []), (104, .iload_n 2, []), (105, .iadd, [])] (by decide +kernel) (y := (106, [some (.ref a0), some (.int x1), some (.int x2)], [.int ((3680 * x1) + x2), .ref (aP d 12 48 a0), .int x2, .ref (aP d 12 22 a0)], h)) rfl ?_
      obtain ⟨v14, hv14, hF⟩ := ob_some hF
      refine en_iald (by decide +kernel : u_at kl_298 106 = some (.iaload, [])) hW ha0 rfl (by decide) hv14 ?_
      obtain ⟨c12_15, hc12_15, hF⟩ := ob_some hF
      refine en_iast (by decide +kernel : u_at kl_298 107 = some (.iastore, [])) hW ha0 rfl (by decide) hc12_15 (fun h hW => ?_)
      have hW : HW (mkw c0 c1 c2 c3 c4 c5 c6 c7 c8 c9 c10 c11 c12_15 c13) d h := hW
      refine en_segs [(108, .iinc 2 1, []), (111, .goto (-33), [78])] (by decide +kernel) (y := (78, [some (.ref a0), some (.int x1), some (.int (x2 + 1))], [], h)) rfl ?_
      exact (ih _ _ _ _ _ _ hF).2 _ _ rfl rfl rfl rfl  _ hW _ hQ
def F_298 (c12 : Cl) (a0 : Nat) (p1 : Int32) : Option (Int32 × Cl) :=
  F_170 ((p1 : Int32).toInt64) 0 3 >>= fun r1 =>
  if r1 = 0 then
  some ((-1), c12)
  else
  ald (cA c12 51 a0) 4 p1 >>= fun v3 =>
  if v3 = 0 then
  some ((-1), c12)
  else
  ald (cA c12 49 a0) 4 p1 >>= fun v5 =>
  some (sI c12 23 a0 v5) >>= fun c12_6 =>
  ald (cA c12_6 50 a0) 4 p1 >>= fun v7 =>
  some (sI c12_6 21 a0 v7) >>= fun c12_8 =>
  G_298 a0 0 [p1, 0] [] [] c12_8
set_option maxRecDepth 100000 in
set_option maxHeartbeats 4000000 in
/-- HeadCountsModel.back -/
theorem e_298 {D : Nat} {c0 c1 c2 c3 c4 c5 c6 c7 c8 c9 c10 c11 c12 c13 : Cl} {d : Ad} {h : UH} {a0 : Nat} {p1 : Int32} {r : (Int32 × Cl)} (hD : 2 ≤ D) (hW : HW (mkw c0 c1 c2 c3 c4 c5 c6 c7 c8 c9 c10 c11 c12 c13) d h) (ha0 : aK d a0 = (0, 12, 0)) (hF : F_298 c12 a0 p1 = some r) : ∃ q, EX D 298 [.ref a0, .int p1] h q ∧ q.1 = some (.int r.1) ∧ HW (mkw c0 c1 c2 c3 c4 c5 c6 c7 c8 c9 c10 c11 r.2 c13) d q.2 := by
  obtain ⟨D, rfl⟩ : ∃ E, D = E + 1 := ⟨D - 1, by omega⟩
  unfold F_298 at hF
  refine ex_in (kl := kl_298) (nL := 3) rfl (by decide +kernel) (Nat.le_of_ble_eq_true rfl) ?_
  obtain ⟨QQ, hQQ⟩ : ∃ QQ : UR → Prop, QQ = (fun q : UR => q.1 = some (.int r.1) ∧ HW (mkw c0 c1 c2 c3 c4 c5 c6 c7 c8 c9 c10 c11 r.2 c13) d q.2) := ⟨_, rfl⟩
  rw [← hQQ]
  have hQ : ∀ h' : UH, HW (mkw c0 c1 c2 c3 c4 c5 c6 c7 c8 c9 c10 c11 r.2 c13) d h' → QQ (some (.int r.1), h') := fun h' p => by rw [hQQ]; exact ⟨rfl, p⟩
  clear hQQ
  show Ends (EX D) (u_at kl_298) (0, [some (.ref a0), some (.int p1), none], [], h) QQ
  refine en_segs [(0, .iload_n 1, []), (1, .i2l, []), (2, .lconst 0, []), (3, .ldc2_w 553, [3])] (by decide +kernel) (y := (6, [some (.ref a0), some (.int p1), none], [.long 3, .long 0, .long ((p1 : Int32).toInt64)], h)) rfl ?_
  obtain ⟨r1, hr1, hF⟩ := ob_some hF
  refine en_si (r := []) (by decide +kernel : u_at kl_298 6 = some (.invokestatic 161, [170, 3])) rfl rfl (Nat.le_of_ble_eq_true rfl) (e_170 (D := D) (by omega) hW hr1) (fun h' q => ?_)
  subst q
  refine en_if_eq (by decide +kernel : u_at kl_298 9 = some (.ifCond .eq 12, [21])) (fun b2 => ?_) (fun b2 => ?_)
  · replace hF := i_pos b2 hF
    refine en_segs [(21, .iconst (-1), [])] (by decide +kernel) (y := (22, [some (.ref a0), some (.int p1), none], [.int (-1)], h)) rfl ?_
    obtain rfl := Option.some.inj hF
    exact en_ret (by decide +kernel : u_at kl_298 22 = some (.ireturn, [0])) rfl (hQ _ hW)
  · replace hF := i_neg b2 hF
    refine en_segs [(12, .aload_n 0, [])] (by decide +kernel) (y := (13, [some (.ref a0), some (.int p1), none], [.ref a0], h)) rfl ?_
    refine en_get (by decide +kernel : u_at kl_298 13 = some (.getfield 119, [12, 51])) hW ha0 (by decide) rfl ?_
    refine en_segs [(16, .iload_n 1, [])] (by decide +kernel) (y := (17, [some (.ref a0), some (.int p1), none], [.int p1, .ref (aP d 12 51 a0)], h)) rfl ?_
    obtain ⟨v3, hv3, hF⟩ := ob_some hF
    refine en_zald (by decide +kernel : u_at kl_298 17 = some (.baload, [])) hW ha0 rfl (by decide) hv3 ?_
    refine en_if_ne (by decide +kernel : u_at kl_298 18 = some (.ifCond .ne 5, [23])) (fun b4 => ?_) (fun b4 => ?_)
    · replace hF := i_pos b4 hF
      refine en_segs [(21, .iconst (-1), [])] (by decide +kernel) (y := (22, [some (.ref a0), some (.int p1), none], [.int (-1)], h)) rfl ?_
      obtain rfl := Option.some.inj hF
      exact en_ret (by decide +kernel : u_at kl_298 22 = some (.ireturn, [0])) rfl (hQ _ hW)
    · replace hF := i_neg b4 hF
      refine en_segs [(23, .aload_n 0, []), (24, .aload_n 0, [])] (by decide +kernel) (y := (25, [some (.ref a0), some (.int p1), none], [.ref a0, .ref a0], h)) rfl ?_
      refine en_get (by decide +kernel : u_at kl_298 25 = some (.getfield 113, [12, 49])) hW ha0 (by decide) rfl ?_
      refine en_segs [(28, .iload_n 1, [])] (by decide +kernel) (y := (29, [some (.ref a0), some (.int p1), none], [.int p1, .ref (aP d 12 49 a0), .ref a0], h)) rfl ?_
      obtain ⟨v5, hv5, hF⟩ := ob_some hF
      refine en_iald (by decide +kernel : u_at kl_298 29 = some (.iaload, [])) hW ha0 rfl (by decide) hv5 ?_
      obtain ⟨c12_6, hc12_6, hF⟩ := ob_some hF
      refine en_putI (by decide +kernel : u_at kl_298 30 = some (.putfield 322, [12, 23, 0])) hW ha0 rfl (by decide) rfl (fun h hW => ?_)
      have hW : HW (mkw c0 c1 c2 c3 c4 c5 c6 c7 c8 c9 c10 c11 c12_6 c13) d h := by rw [← Option.some.inj hc12_6]; exact hW
      refine en_segs [(33, .aload_n 0, []), (34, .aload_n 0, [])] (by decide +kernel) (y := (35, [some (.ref a0), some (.int p1), none], [.ref a0, .ref a0], h)) rfl ?_
      refine en_get (by decide +kernel : u_at kl_298 35 = some (.getfield 116, [12, 50])) hW ha0 (by decide) rfl ?_
      refine en_segs [(38, .iload_n 1, [])] (by decide +kernel) (y := (39, [some (.ref a0), some (.int p1), none], [.int p1, .ref (aP d 12 50 a0), .ref a0], h)) rfl ?_
      obtain ⟨v7, hv7, hF⟩ := ob_some hF
      refine en_iald (by decide +kernel : u_at kl_298 39 = some (.iaload, [])) hW ha0 rfl (by decide) hv7 ?_
      obtain ⟨c12_8, hc12_8, hF⟩ := ob_some hF
      refine en_putI (by decide +kernel : u_at kl_298 40 = some (.putfield 528, [12, 21, 0])) hW ha0 rfl (by decide) rfl (fun h hW => ?_)
      have hW : HW (mkw c0 c1 c2 c3 c4 c5 c6 c7 c8 c9 c10 c11 c12_8 c13) d h := by rw [← Option.some.inj hc12_8]; exact hW
      refine en_segs [(43, .iconst 0, []), (44, .istore_n 2, [])] (by decide +kernel) (y := (45, [some (.ref a0), some (.int p1), some (.int 0)], [], h)) rfl ?_
      exact (g_298 (D := D) hD ha0 _ _ _ _ _ _ hF).1 _ _ rfl rfl rfl rfl  _ hW _ hQ
